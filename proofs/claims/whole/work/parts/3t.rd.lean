/-! what is read of a text, on both sides -/
section PT1
variable {len q : Int} {f f1 : Int → Int}
/-- letters that a word has -/
def eqw (f : Int → Int) (s : Int) : List Int → Prop
  | [] => True
  | c :: cs => f s = c ∧ eqw f (s + 1) cs
theorem word_both (H : pB len f1 f) {s : Int} {w : List Int} (hs : 0 ≤ s) (hl : s + w.length ≤ len) (hw : ∀ i : Nat, i < w.length → 0 ≤ w.getD i 0 ∧ w.getD i 0 ≤ 255) (hw2 : w.length < 100) : ∀ (n m : Nat) (i : Int), i + m = w.length → 0 ≤ i → m < n → ∃ r, fn_Text_isWord_b28 n f1 s w i = some r ∧ fn_Md_isWord_b28 n f s w i = some r ∧ (r = 0 ∨ r = 1) ∧ (r = 1 → i = 0 → 0 < w.length → f s = w.getD 0 0) := by
  have hb := H.1
  intro n
  induction n with
  | zero => intro m i _ _ h; omega
  | succ n ih =>
    intro m i hi h0 hm
    rw [fn_Text_isWord_b28, fn_Md_isWord_b28]
    cases m with
    | zero =>
      refine ⟨1, ?_, ?_, Or.inr rfl, fun _ _ h => by omega⟩
      · (try simp (disch := omega) only [↓zk_lt, ↓zk_nl, ↓zk_eq, ↓zk_ne, ↓zk_ix, ↓zk_dv, ↓zk_bo, ↓zk_rg, ↓zk_get, ↓zk_set, Option.bind_some])
      · (try simp (disch := omega) only [↓zk_lt, ↓zk_nl, ↓zk_eq, ↓zk_ne, ↓zk_ix, ↓zk_dv, ↓zk_bo, ↓zk_rg, ↓zk_get, ↓zk_set, Option.bind_some])
    | succ m =>
      have hc := hw i.toNat (by omega)
      obtain ⟨b1, b2⟩ := H.2 (s + i) (by omega) (by omega)
      by_cases x : f (s + i) = w.getD i.toNat 0
      · obtain ⟨r, k1, k2, k3, k4⟩ := ih m (i + 1) (by omega) (by omega) (by omega)
        refine ⟨r, ?_, ?_, k3, fun h1 h2 _ => ?_⟩
        · (try simp (disch := omega) only [↓zk_lt, ↓zk_nl, ↓zk_eq, ↓zk_ne, ↓zk_ix, ↓zk_dv, ↓zk_bo, ↓zk_rg, ↓zk_get, ↓zk_set, Option.bind_some])
          exact k1
        · (try simp (disch := omega) only [↓zk_lt, ↓zk_nl, ↓zk_eq, ↓zk_ne, ↓zk_ix, ↓zk_dv, ↓zk_bo, ↓zk_rg, ↓zk_get, ↓zk_set, Option.bind_some])
          exact k2
        · subst h2
          rw [show (0 : Int).toNat = 0 from rfl, Int.add_zero] at x
          exact x
      · refine ⟨0, ?_, ?_, Or.inl rfl, fun h => by omega⟩
        · (try simp (disch := omega) only [↓zk_lt, ↓zk_nl, ↓zk_eq, ↓zk_ne, ↓zk_ix, ↓zk_dv, ↓zk_bo, ↓zk_rg, ↓zk_get, ↓zk_set, Option.bind_some])
        · (try simp (disch := omega) only [↓zk_lt, ↓zk_nl, ↓zk_eq, ↓zk_ne, ↓zk_ix, ↓zk_dv, ↓zk_bo, ↓zk_rg, ↓zk_get, ↓zk_set, Option.bind_some])
theorem isw (H : pB len f1 f) (hq : 0 ≤ q) (hl : q ≤ len) {nb bg vl tk : Int} (P : pTk f len q nb bg vl tk) (w : List Int) (hw : ∀ i : Nat, i < w.length → 0 ≤ w.getD i 0 ∧ w.getD i 0 ≤ 255) (hw2 : w.length < 100) (hw3 : 0 < w.length) : ∃ r, fn_Text_isWord f1 (tK f len q) (tS f len q) (tE f len q) w = some r ∧ fn_Md_isWord f nb bg tk w = some r ∧ (r = 0 ∨ r = 1) ∧ (r = 1 → tK f len q = 2 ∧ tE f len q - tS f len q = w.length ∧ f (tS f len q) = w.getD 0 0) := by
  have hF := jk_F_big
  have hb := H.1
  obtain ⟨rfl, rfl, rfl, -⟩ := P
  obtain ⟨⟨h1, h2⟩, -⟩ := tS_r (f := f) hq hl
  have hE := tE_r (f := f) hq hl
  have hk := tK_r (f := f) hq hl
  unfold fn_Text_isWord fn_Md_isWord mk
  by_cases a : tK f len q = 2
  · by_cases b : tE f len q - tS f len q = w.length
    · obtain ⟨r, k1, k2, k3, k4⟩ := word_both H (s := tS f len q) (w := w) (by omega) (by omega) hw hw2 jk_F w.length 0 (by omega) (by omega) (by omega)
      refine ⟨r, ?_, ?_, k3, fun h => ⟨a, b, k4 h rfl hw3⟩⟩
      · (try simp (disch := omega) only [↓zk_lt, ↓zk_nl, ↓zk_eq, ↓zk_ne, ↓zk_ix, ↓zk_dv, ↓zk_bo, ↓zk_rg, ↓zk_get, ↓zk_set, Option.bind_some])
        exact k1
      · rw [if_neg (by omega)]
        (try simp (disch := omega) only [↓zk_lt, ↓zk_nl, ↓zk_eq, ↓zk_ne, ↓zk_ix, ↓zk_dv, ↓zk_bo, ↓zk_rg, ↓zk_get, ↓zk_set, Option.bind_some])
        exact k2
    · refine ⟨0, ?_, ?_, Or.inl rfl, fun h => by omega⟩
      · (try simp (disch := omega) only [↓zk_lt, ↓zk_nl, ↓zk_eq, ↓zk_ne, ↓zk_ix, ↓zk_dv, ↓zk_bo, ↓zk_rg, ↓zk_get, ↓zk_set, Option.bind_some])
      · rw [if_neg (by omega)]
        (try simp (disch := omega) only [↓zk_lt, ↓zk_nl, ↓zk_eq, ↓zk_ne, ↓zk_ix, ↓zk_dv, ↓zk_bo, ↓zk_rg, ↓zk_get, ↓zk_set, Option.bind_some])
  · refine ⟨0, ?_, ?_, Or.inl rfl, fun h => by omega⟩
    · (try simp (disch := omega) only [↓zk_lt, ↓zk_nl, ↓zk_eq, ↓zk_ne, ↓zk_ix, ↓zk_dv, ↓zk_bo, ↓zk_rg, ↓zk_get, ↓zk_set, Option.bind_some])
    · by_cases z : tK f len q = 0
      · rw [if_pos z]; (try simp (disch := omega) only [↓zk_lt, ↓zk_nl, ↓zk_eq, ↓zk_ne, ↓zk_ix, ↓zk_dv, ↓zk_bo, ↓zk_rg, ↓zk_get, ↓zk_set, Option.bind_some])
      · rw [if_neg z]; (try simp (disch := omega) only [↓zk_lt, ↓zk_nl, ↓zk_eq, ↓zk_ne, ↓zk_ix, ↓zk_dv, ↓zk_bo, ↓zk_rg, ↓zk_get, ↓zk_set, Option.bind_some])
theorem c_hf0 : fn_Text_hasFailed 0 = some 0 := by decide +kernel
theorem c_hf {c : Int} (h : 1 ≤ c ∧ c ≤ 7) : fn_Text_hasFailed c = some 1 := by
  unfold fn_Text_hasFailed
  (try simp (disch := omega) only [↓zk_lt, ↓zk_nl, ↓zk_eq, ↓zk_ne, ↓zk_ix, ↓zk_dv, ↓zk_bo, ↓zk_rg, ↓zk_get, ↓zk_set, Option.bind_some])
theorem c_fail0 {s o x : Int} : fn_Text_fail s 0 o x = some (x, s) := by
  unfold fn_Text_fail
  (try simp (disch := omega) only [↓zk_lt, ↓zk_nl, ↓zk_eq, ↓zk_ne, ↓zk_ix, ↓zk_dv, ↓zk_bo, ↓zk_rg, ↓zk_get, ↓zk_set, Option.bind_some])
theorem c_fail {s o x c : Int} (h : 1 ≤ c ∧ c ≤ 7) : fn_Text_fail s c o x = some (c, o) := by
  unfold fn_Text_fail
  (try simp (disch := omega) only [↓zk_lt, ↓zk_nl, ↓zk_eq, ↓zk_ne, ↓zk_ix, ↓zk_dv, ↓zk_bo, ↓zk_rg, ↓zk_get, ↓zk_set, Option.bind_some])
theorem m_fail0 {o b x : Int} : fn_Md_failsAt 0 o b x = some (0, x, b) := by
  unfold fn_Md_failsAt
  (try simp (disch := omega) only [↓zk_lt, ↓zk_nl, ↓zk_eq, ↓zk_ne, ↓zk_ix, ↓zk_dv, ↓zk_bo, ↓zk_rg, ↓zk_get, ↓zk_set, Option.bind_some])
theorem nvl_r {s : Int} : ∀ (m : Nat), (∀ i, s ≤ i → i < s + m → 48 ≤ f i ∧ f i ≤ 57) → 0 ≤ nvl f s m ∧ nvl f s m < 10 ^ m := by
  intro m
  induction m with
  | zero => intro _; simp [nvl]
  | succ m ih =>
    intro h
    have h1 := h (s + m) (by omega) (by omega)
    have h2 := ih (fun i h3 h4 => h i h3 (by omega))
    simp only [nvl]
    rw [Int.pow_succ]
    omega
theorem p10 {n : Nat} (h : n ≤ 4) : (10 : Int) ^ n ≤ 10000 := by
  have : n = 0 ∨ n = 1 ∨ n = 2 ∨ n = 3 ∨ n = 4 := by omega
  rcases this with rfl | rfl | rfl | rfl | rfl <;> decide
/-- the number of the token at q -/
def tV (f : Int → Int) (len q : Int) : Int := nvl f (tS f len q) (tE f len q - tS f len q).toNat
theorem tV_r (hq : 0 ≤ q) (hl : q ≤ len) (h : tK f len q = 3) : 0 ≤ tV f len q ∧ tV f len q ≤ 9999 := by
  obtain ⟨a, b, c⟩ := tK_3 hq hl h
  have h1 := nvl_r (f := f) (s := tS f len q) (tE f len q - tS f len q).toNat (fun i h2 h3 => c i h2 (by omega))
  have h2 := p10 (n := (tE f len q - tS f len q).toNat) (by omega)
  unfold tV
  omega
theorem c_num_b (H : pB len f1 f) (hq : 0 ≤ q) (hl : q ≤ len) (h : tK f len q = 3) {lo hi o : Int} (hlo : 0 ≤ lo ∧ lo ≤ 10000) (hhi : 0 ≤ hi ∧ hi ≤ 10000) : ∀ (n m : Nat) (v i : Int), i + m = tE f len q → tS f len q ≤ i → v = nvl f (tS f len q) (i - tS f len q).toNat → m < n →
    fn_Text_readNumber_b36 n f1 (tK f len q) (tS f len q) (tE f len q) 0 o lo hi v i = some (tV f len q, tK f len q, tS f len q, tE f len q, if lo ≤ tV f len q ∧ tV f len q ≤ hi then 0 else 2, if lo ≤ tV f len q ∧ tV f len q ≤ hi then o else tS f len q) := by
  have hb := H.1
  obtain ⟨⟨h1, h2⟩, -⟩ := tS_r (f := f) hq hl
  have hE := tE_r (f := f) hq hl
  have hv := tV_r hq hl h
  intro n
  induction n with
  | zero => intro m v i _ _ _ h; omega
  | succ n ih =>
    intro m v i hie h0 hv2 hm
    rw [fn_Text_readNumber_b36]
    cases m with
    | zero =>
      have ev : v = tV f len q := by
        rw [hv2, show i = tE f len q by omega]
        rfl
      rw [ev]
      by_cases a : lo ≤ tV f len q
      · by_cases b : tV f len q ≤ hi
        · (try simp (disch := omega) only [↓zk_lt, ↓zk_nl, ↓zk_eq, ↓zk_ne, ↓zk_ix, ↓zk_dv, ↓zk_bo, ↓zk_rg, ↓zk_get, ↓zk_set, Option.bind_some])
          rw [if_pos ⟨a, b⟩, if_pos ⟨a, b⟩]
        · (try simp (disch := omega) only [↓zk_lt, ↓zk_nl, ↓zk_eq, ↓zk_ne, ↓zk_ix, ↓zk_dv, ↓zk_bo, ↓zk_rg, ↓zk_get, ↓zk_set, Option.bind_some])
          rw [zk_bd c_fail0, if_neg (fun z : lo ≤ tV f len q ∧ tV f len q ≤ hi => b z.2), if_neg (fun z : lo ≤ tV f len q ∧ tV f len q ≤ hi => b z.2)]
      · (try simp (disch := omega) only [↓zk_lt, ↓zk_nl, ↓zk_eq, ↓zk_ne, ↓zk_ix, ↓zk_dv, ↓zk_bo, ↓zk_rg, ↓zk_get, ↓zk_set, Option.bind_some])
        rw [zk_bd c_fail0, if_neg (fun z : lo ≤ tV f len q ∧ tV f len q ≤ hi => a z.1), if_neg (fun z : lo ≤ tV f len q ∧ tV f len q ≤ hi => a z.1)]
    | succ m =>
      obtain ⟨b1, b2⟩ := H.2 i (by omega) (by omega)
      (try simp (disch := omega) only [↓zk_lt, ↓zk_nl, ↓zk_eq, ↓zk_ne, ↓zk_ix, ↓zk_dv, ↓zk_bo, ↓zk_rg, ↓zk_get, ↓zk_set, Option.bind_some])
      refine ih m _ _ (by omega) (by omega) ?_ (by omega)
      rw [show (i + 1 - tS f len q).toNat = (i - tS f len q).toNat + 1 by omega]
      simp only [nvl]
      rw [← hv2, b1, show tS f len q + (((i - tS f len q).toNat : Nat) : Int) = i by omega]
/-- a number read -/
theorem num (H : pB len f1 f) (hq : 0 ≤ q) (hl : q ≤ len) {nb bg vl tk k0 s0 o mo got lo hi kk : Int} {n : Int → Int} (P : pTk f len q nb bg vl tk) (hlo : 0 ≤ lo ∧ lo ≤ 10000) (hhi : 0 ≤ hi ∧ hi ≤ 10000) (hk : 0 ≤ kk ∧ kk < 3) :
    (∃ v nb' bg' vl' tk', (lo ≤ v ∧ v ≤ hi) ∧ tK f len q = 3 ∧ fn_Text_readNumber f1 len k0 s0 q 0 o lo hi = some (v, tK f len q, tS f len q, tE f len q, 0, o) ∧ fn_Md_takes f len 0 mo nb bg vl tk got n kk lo hi = some (1, 0, mo, nb', bg', vl', tk', v, jk_up n kk v) ∧ fn_Md_seesNumber 0 mo bg vl tk got lo hi = some (1, 0, mo, v) ∧ pTk f len (tE f len q) nb' bg' vl' tk') ∨
    (∃ v c got', (1 ≤ c ∧ c ≤ 7) ∧ fn_Text_readNumber f1 len k0 s0 q 0 o lo hi = some (v, tK f len q, tS f len q, tE f len q, c, tS f len q) ∧ fn_Md_takes f len 0 mo nb bg vl tk got n kk lo hi = some (0, c, tS f len q, nb, bg, vl, tk, got', n) ∧ fn_Md_seesNumber 0 mo bg vl tk got lo hi = some (0, c, tS f len q, got')) := by
  have hF := jk_F_big
  have hb := H.1
  have P' := P
  obtain ⟨rfl, rfl, rfl, hvl⟩ := P
  have hk := tK_r (f := f) hq hl
  have hE := tE_r (f := f) hq hl
  obtain ⟨⟨h1, h2⟩, -⟩ := tS_r (f := f) hq hl
  have hcn := c_next H hq hl (k0 := k0) (s0 := s0)
  by_cases a : tK f len q = 3
  · have hv := tV_r hq hl a
    have ev : vl = tV f len q := hvl a
    have hn := c_num_b H hq hl a (lo := lo) (hi := hi) (o := o) hlo hhi jk_F (tE f len q - tS f len q).toNat 0 (tS f len q) (by omega) (by omega) (by rw [show (tS f len q - tS f len q).toNat = 0 by omega]; rfl) (by omega)
    have emk : mk (tK f len q) = 2 := by unfold mk; rw [if_neg (by omega)]; omega
    by_cases b : lo ≤ tV f len q ∧ tV f len q ≤ hi
    · left
      rw [if_pos b, if_pos b] at hn
      obtain ⟨nb', bg', vl', tk', k1, k2⟩ := m_next H (q := tE f len q) (by omega) (by omega) (tS f len q) vl (mk (tK f len q))
      have hsn : fn_Md_seesNumber 0 mo (tS f len q) vl (mk (tK f len q)) got lo hi = some (1, 0, mo, tV f len q) := by
        unfold fn_Md_seesNumber
        rw [emk, ev]
        (try simp (disch := omega) only [↓zk_lt, ↓zk_nl, ↓zk_eq, ↓zk_ne, ↓zk_ix, ↓zk_dv, ↓zk_bo, ↓zk_rg, ↓zk_get, ↓zk_set, Option.bind_some])
        rw [zk_bd (sm_inR ⟨by omega, by omega⟩ ⟨by omega, by omega⟩ ⟨by omega, by omega⟩), if_pos b]
        (try simp (disch := omega) only [↓zk_lt, ↓zk_nl, ↓zk_eq, ↓zk_ne, ↓zk_ix, ↓zk_dv, ↓zk_bo, ↓zk_rg, ↓zk_get, ↓zk_set, Option.bind_some])
      refine ⟨tV f len q, nb', bg', vl', tk', b, a, ?_, ?_, hsn, k2⟩
      · unfold fn_Text_readNumber
        rw [zk_bd c_hf0]
        (try simp (disch := omega) only [↓zk_lt, ↓zk_nl, ↓zk_eq, ↓zk_ne, ↓zk_ix, ↓zk_dv, ↓zk_bo, ↓zk_rg, ↓zk_get, ↓zk_set, Option.bind_some])
        rw [zk_bd hcn]
        (try simp (disch := omega) only [↓zk_lt, ↓zk_nl, ↓zk_eq, ↓zk_ne, ↓zk_ix, ↓zk_dv, ↓zk_bo, ↓zk_rg, ↓zk_get, ↓zk_set, Option.bind_some])
        exact hn
      · unfold fn_Md_takes fn_Md_takesNumber
        rw [zk_bd hsn]
        (try simp (disch := omega) only [↓zk_lt, ↓zk_nl, ↓zk_eq, ↓zk_ne, ↓zk_ix, ↓zk_dv, ↓zk_bo, ↓zk_rg, ↓zk_get, ↓zk_set, Option.bind_some])
        rw [zk_bd k1]
        (try simp (disch := omega) only [↓zk_lt, ↓zk_nl, ↓zk_eq, ↓zk_ne, ↓zk_ix, ↓zk_dv, ↓zk_bo, ↓zk_rg, ↓zk_get, ↓zk_set, Option.bind_some])
    · right
      rw [if_neg b, if_neg b] at hn
      have hsn : fn_Md_seesNumber 0 mo (tS f len q) vl (mk (tK f len q)) got lo hi = some (0, 2, tS f len q, got) := by
        unfold fn_Md_seesNumber
        rw [emk, ev]
        (try simp (disch := omega) only [↓zk_lt, ↓zk_nl, ↓zk_eq, ↓zk_ne, ↓zk_ix, ↓zk_dv, ↓zk_bo, ↓zk_rg, ↓zk_get, ↓zk_set, Option.bind_some])
        rw [zk_bd (sm_inR ⟨by omega, by omega⟩ ⟨by omega, by omega⟩ ⟨by omega, by omega⟩), if_neg b]
        (try simp (disch := omega) only [↓zk_lt, ↓zk_nl, ↓zk_eq, ↓zk_ne, ↓zk_ix, ↓zk_dv, ↓zk_bo, ↓zk_rg, ↓zk_get, ↓zk_set, Option.bind_some])
        rw [zk_bd m_fail0]
        (try simp (disch := omega) only [↓zk_lt, ↓zk_nl, ↓zk_eq, ↓zk_ne, ↓zk_ix, ↓zk_dv, ↓zk_bo, ↓zk_rg, ↓zk_get, ↓zk_set, Option.bind_some])
      refine ⟨tV f len q, 2, got, by omega, ?_, ?_, hsn⟩
      · unfold fn_Text_readNumber
        rw [zk_bd c_hf0]
        (try simp (disch := omega) only [↓zk_lt, ↓zk_nl, ↓zk_eq, ↓zk_ne, ↓zk_ix, ↓zk_dv, ↓zk_bo, ↓zk_rg, ↓zk_get, ↓zk_set, Option.bind_some])
        rw [zk_bd hcn]
        (try simp (disch := omega) only [↓zk_lt, ↓zk_nl, ↓zk_eq, ↓zk_ne, ↓zk_ix, ↓zk_dv, ↓zk_bo, ↓zk_rg, ↓zk_get, ↓zk_set, Option.bind_some])
        exact hn
      · unfold fn_Md_takes fn_Md_takesNumber
        rw [zk_bd hsn]
        (try simp (disch := omega) only [↓zk_lt, ↓zk_nl, ↓zk_eq, ↓zk_ne, ↓zk_ix, ↓zk_dv, ↓zk_bo, ↓zk_rg, ↓zk_get, ↓zk_set, Option.bind_some])
  · right
    have emk : -10 ≤ mk (tK f len q) ∧ mk (tK f len q) ≤ 10 ∧ ¬ mk (tK f len q) = 2 := by unfold mk; split <;> omega
    have hsn : fn_Md_seesNumber 0 mo (tS f len q) vl (mk (tK f len q)) got lo hi = some (0, 1, tS f len q, got) := by
      unfold fn_Md_seesNumber
      (try simp (disch := omega) only [↓zk_lt, ↓zk_nl, ↓zk_eq, ↓zk_ne, ↓zk_ix, ↓zk_dv, ↓zk_bo, ↓zk_rg, ↓zk_get, ↓zk_set, Option.bind_some])
      rw [zk_bd m_fail0]
      (try simp (disch := omega) only [↓zk_lt, ↓zk_nl, ↓zk_eq, ↓zk_ne, ↓zk_ix, ↓zk_dv, ↓zk_bo, ↓zk_rg, ↓zk_get, ↓zk_set, Option.bind_some])
    refine ⟨0, 1, got, by omega, ?_, ?_, hsn⟩
    · unfold fn_Text_readNumber
      rw [zk_bd c_hf0]
      (try simp (disch := omega) only [↓zk_lt, ↓zk_nl, ↓zk_eq, ↓zk_ne, ↓zk_ix, ↓zk_dv, ↓zk_bo, ↓zk_rg, ↓zk_get, ↓zk_set, Option.bind_some])
      rw [zk_bd hcn]
      (try simp (disch := omega) only [↓zk_lt, ↓zk_nl, ↓zk_eq, ↓zk_ne, ↓zk_ix, ↓zk_dv, ↓zk_bo, ↓zk_rg, ↓zk_get, ↓zk_set, Option.bind_some])
      rw [zk_bd c_fail0]
    · unfold fn_Md_takes fn_Md_takesNumber
      rw [zk_bd hsn]
      (try simp (disch := omega) only [↓zk_lt, ↓zk_nl, ↓zk_eq, ↓zk_ne, ↓zk_ix, ↓zk_dv, ↓zk_bo, ↓zk_rg, ↓zk_get, ↓zk_set, Option.bind_some])
/-- a semicolon read -/
theorem semi (H : pB len f1 f) (hq : 0 ≤ q) (hl : q ≤ len) {nb bg vl tk k0 s0 o mo : Int} (P : pTk f len q nb bg vl tk) :
    (∃ nb' bg' vl' tk', tS f len q < len ∧ fn_Text_readSemicolon f1 len k0 s0 q 0 o = some (tK f len q, tS f len q, tE f len q, 0, o) ∧ fn_Md_takesSemicolon f len 0 mo nb bg vl tk = some (1, 0, mo, nb', bg', vl', tk') ∧ pTk f len (tE f len q) nb' bg' vl' tk') ∨
    (fn_Text_readSemicolon f1 len k0 s0 q 0 o = some (tK f len q, tS f len q, tE f len q, 1, tS f len q) ∧ fn_Md_takesSemicolon f len 0 mo nb bg vl tk = some (0, 1, tS f len q, nb, bg, vl, tk)) := by
  have hb := H.1
  obtain ⟨rfl, rfl, rfl, hvl⟩ := P
  have hk := tK_r (f := f) hq hl
  have hE := tE_r (f := f) hq hl
  obtain ⟨⟨h1, h2⟩, -⟩ := tS_r (f := f) hq hl
  have hcn := c_next H hq hl (k0 := k0) (s0 := s0)
  unfold fn_Text_readSemicolon fn_Md_takesSemicolon
  rw [zk_bd c_hf0]
  (try simp (disch := omega) only [↓zk_lt, ↓zk_nl, ↓zk_eq, ↓zk_ne, ↓zk_ix, ↓zk_dv, ↓zk_bo, ↓zk_rg, ↓zk_get, ↓zk_set, Option.bind_some])
  rw [zk_bd hcn]
  by_cases a : tK f len q = 4
  · left
    have emk : mk (tK f len q) = 3 := by unfold mk; rw [if_neg (by omega)]; omega
    obtain ⟨nb', bg', vl', tk', k1, k2⟩ := m_next H (q := tE f len q) (by omega) (by omega) (tS f len q) vl (mk (tK f len q))
    rw [emk] at k1 ⊢
    have hlt : tS f len q < len := by
      by_cases z : tS f len q = len
      · have := hk.2.1.mpr z; omega
      · omega
    refine ⟨nb', bg', vl', tk', hlt, ?_, ?_, k2⟩
    · (try simp (disch := omega) only [↓zk_lt, ↓zk_nl, ↓zk_eq, ↓zk_ne, ↓zk_ix, ↓zk_dv, ↓zk_bo, ↓zk_rg, ↓zk_get, ↓zk_set, Option.bind_some])
    · (try simp (disch := omega) only [↓zk_lt, ↓zk_nl, ↓zk_eq, ↓zk_ne, ↓zk_ix, ↓zk_dv, ↓zk_bo, ↓zk_rg, ↓zk_get, ↓zk_set, Option.bind_some])
      rw [zk_bd k1]
  · right
    have emk : -10 ≤ mk (tK f len q) ∧ mk (tK f len q) ≤ 10 ∧ ¬ mk (tK f len q) = 3 := by unfold mk; split <;> omega
    refine ⟨?_, ?_⟩
    · (try simp (disch := omega) only [↓zk_lt, ↓zk_nl, ↓zk_eq, ↓zk_ne, ↓zk_ix, ↓zk_dv, ↓zk_bo, ↓zk_rg, ↓zk_get, ↓zk_set, Option.bind_some])
      rw [zk_bd c_fail0]
    · (try simp (disch := omega) only [↓zk_lt, ↓zk_nl, ↓zk_eq, ↓zk_ne, ↓zk_ix, ↓zk_dv, ↓zk_bo, ↓zk_rg, ↓zk_get, ↓zk_set, Option.bind_some])
      rw [zk_bd m_fail0]
      (try simp (disch := omega) only [↓zk_lt, ↓zk_nl, ↓zk_eq, ↓zk_ne, ↓zk_ix, ↓zk_dv, ↓zk_bo, ↓zk_rg, ↓zk_get, ↓zk_set, Option.bind_some])
/-! names -/
theorem c_name_b (H : pB len f1 f) {s e o : Int} (hs : 0 ≤ s) (he : e ≤ len) (h6 : e - s ≤ 6) (hL : ∀ i, s ≤ i → i < e → 97 ≤ f i ∧ f i ≤ 122) : ∀ (n m : Nat) (i : Int), i + 1 = s + m → i < e → m < n → fn_Text_name_b38 n f1 s 0 o (enc f (i + 1) (e - (i + 1)).toNat) i = some (enc f s (e - s).toNat, 0, o) := by
  have hb := H.1
  intro n
  induction n with
  | zero => intro m i _ _ h; omega
  | succ n ih =>
    intro m i hi h0 hm
    rw [fn_Text_name_b38]
    cases m with
    | zero =>
      (try simp (disch := omega) only [↓zk_lt, ↓zk_nl, ↓zk_eq, ↓zk_ne, ↓zk_ix, ↓zk_dv, ↓zk_bo, ↓zk_rg, ↓zk_get, ↓zk_set, Option.bind_some])
      rw [show i + 1 = s by omega]
    | succ m =>
      obtain ⟨b1, b2⟩ := H.2 i (by omega) (by omega)
      have hl := hL i (by omega) h0
      have hr := enc_r (f := f) (e - (i + 1)).toNat (i + 1) (fun j h3 h4 => hL j (by omega) (by omega))
      have h5 : (32 : Int) ^ (e - (i + 1)).toNat ≤ 33554432 := by
        have : (e - (i + 1)).toNat = 0 ∨ (e - (i + 1)).toNat = 1 ∨ (e - (i + 1)).toNat = 2 ∨ (e - (i + 1)).toNat = 3 ∨ (e - (i + 1)).toNat = 4 ∨ (e - (i + 1)).toNat = 5 := by omega
        rcases this with h | h | h | h | h | h <;> rw [h] <;> decide
      (try simp (disch := omega) only [↓zk_lt, ↓zk_nl, ↓zk_eq, ↓zk_ne, ↓zk_ix, ↓zk_dv, ↓zk_bo, ↓zk_rg, ↓zk_get, ↓zk_set, Option.bind_some])
      rw [b1, zb_shl5 hr.1 (by omega), zb_or5 hr.1 (by omega) (by omega) (by omega)]
      have e1 : enc f (i + 1) (e - (i + 1)).toNat * 32 + (f i - 97 + 1) = enc f (i + (-1) + 1) (e - (i + (-1) + 1)).toNat := by
        rw [show (e - (i + (-1) + 1)).toNat = (e - (i + 1)).toNat + 1 by omega, show i + (-1) + 1 = i by omega]
        simp only [enc]
        omega
      rw [e1]
      exact ih m (i + (-1)) (by omega) (by omega) (by omega)
/-- a token that can be a name -/
def tN (f : Int → Int) (len q : Int) : Prop := tK f len q = 2 ∧ tE f len q - tS f len q ≤ 6
theorem c_name (H : pB len f1 f) (hq : 0 ≤ q) (hl : q ≤ len) {o : Int} : (tN f len q ∧ fn_Text_name f1 (tK f len q) (tS f len q) (tE f len q) 0 o = some (enc f (tS f len q) (tE f len q - tS f len q).toNat, 0, o)) ∨ (¬ tN f len q ∧ fn_Text_name f1 (tK f len q) (tS f len q) (tE f len q) 0 o = some (0, 1, tS f len q)) := by
  have hF := jk_F_big
  have hb := H.1
  have hk := tK_r (f := f) hq hl
  have hE := tE_r (f := f) hq hl
  obtain ⟨⟨h1, h2⟩, -⟩ := tS_r (f := f) hq hl
  unfold fn_Text_name
  by_cases a : tK f len q = 2
  · obtain ⟨a1, a2, a3⟩ := tK_2 hq hl a
    by_cases b : tE f len q - tS f len q ≤ 6
    · left
      refine ⟨⟨a, b⟩, ?_⟩
      have hn := c_name_b H (s := tS f len q) (e := tE f len q) (o := o) (by omega) (by omega) b a3 jk_F (tE f len q - tS f len q).toNat (tE f len q - 1) (by omega) (by omega) (by omega)
      rw [show (tE f len q - (tE f len q - 1 + 1)).toNat = 0 by omega] at hn
      (try simp (disch := omega) only [↓zk_lt, ↓zk_nl, ↓zk_eq, ↓zk_ne, ↓zk_ix, ↓zk_dv, ↓zk_bo, ↓zk_rg, ↓zk_get, ↓zk_set, Option.bind_some])
      exact hn
    · right
      refine ⟨fun z => b z.2, ?_⟩
      (try simp (disch := omega) only [↓zk_lt, ↓zk_nl, ↓zk_eq, ↓zk_ne, ↓zk_ix, ↓zk_dv, ↓zk_bo, ↓zk_rg, ↓zk_get, ↓zk_set, Option.bind_some])
      rw [zk_bd c_fail0]
  · right
    refine ⟨fun z => a z.1, ?_⟩
    (try simp (disch := omega) only [↓zk_lt, ↓zk_nl, ↓zk_eq, ↓zk_ne, ↓zk_ix, ↓zk_dv, ↓zk_bo, ↓zk_rg, ↓zk_get, ↓zk_set, Option.bind_some])
    rw [zk_bd c_fail0]
theorem m_sees (hq : 0 ≤ q) (hl : q ≤ len) (hlen : len ≤ 700) {mo : Int} : (tN f len q → fn_Md_seesName 0 mo (tE f len q) (tS f len q) (mk (tK f len q)) = some (1, 0, mo)) ∧ (¬ tN f len q → fn_Md_seesName 0 mo (tE f len q) (tS f len q) (mk (tK f len q)) = some (0, 1, tS f len q)) := by
  have hk := tK_r (f := f) hq hl
  have hE := tE_r (f := f) hq hl
  obtain ⟨⟨h1, h2⟩, -⟩ := tS_r (f := f) hq hl
  unfold fn_Md_seesName tN
  by_cases a : tK f len q = 2
  · have emk : mk (tK f len q) = 1 := by unfold mk; rw [if_neg (by omega)]; omega
    rw [emk]
    by_cases b : tE f len q - tS f len q ≤ 6
    · refine ⟨fun _ => ?_, fun z => absurd ⟨a, b⟩ z⟩
      (try simp (disch := omega) only [↓zk_lt, ↓zk_nl, ↓zk_eq, ↓zk_ne, ↓zk_ix, ↓zk_dv, ↓zk_bo, ↓zk_rg, ↓zk_get, ↓zk_set, Option.bind_some])
    · refine ⟨fun z => absurd z.2 b, fun _ => ?_⟩
      (try simp (disch := omega) only [↓zk_lt, ↓zk_nl, ↓zk_eq, ↓zk_ne, ↓zk_ix, ↓zk_dv, ↓zk_bo, ↓zk_rg, ↓zk_get, ↓zk_set, Option.bind_some])
      rw [zk_bd m_fail0]
      (try simp (disch := omega) only [↓zk_lt, ↓zk_nl, ↓zk_eq, ↓zk_ne, ↓zk_ix, ↓zk_dv, ↓zk_bo, ↓zk_rg, ↓zk_get, ↓zk_set, Option.bind_some])
  · have emk : -10 ≤ mk (tK f len q) ∧ mk (tK f len q) ≤ 10 ∧ ¬ mk (tK f len q) = 1 := by unfold mk; split <;> omega
    refine ⟨fun z => absurd z.1 a, fun _ => ?_⟩
    (try simp (disch := omega) only [↓zk_lt, ↓zk_nl, ↓zk_eq, ↓zk_ne, ↓zk_ix, ↓zk_dv, ↓zk_bo, ↓zk_rg, ↓zk_get, ↓zk_set, Option.bind_some])
    rw [zk_bd m_fail0]
    (try simp (disch := omega) only [↓zk_lt, ↓zk_nl, ↓zk_eq, ↓zk_ne, ↓zk_ix, ↓zk_dv, ↓zk_bo, ↓zk_rg, ↓zk_get, ↓zk_set, Option.bind_some])
theorem m_nameAt (H : pB len f1 f) {w : Int → Int} {s a : Int} {m : Nat} (hs : 0 ≤ s) (hl : s + m ≤ len) (hm : m ≤ 6) (ha : 0 ≤ a ∧ a ≤ 52) (hw : pLet w (a + 1) m) : ∀ (n k : Nat) (i : Int), i + k = m → 0 ≤ i → k < n → ∃ r, fn_Md_isNameAt_b24 n w f (s + m) s a i = some r ∧ ((r = 1 ∧ ∀ j : Nat, i ≤ j → j < m → w (a + 1 + j) = f (s + j)) ∨ (r = 0 ∧ ¬ ∀ j : Nat, i ≤ j → j < m → w (a + 1 + j) = f (s + j))) := by
  have hb := H.1
  intro n
  induction n with
  | zero => intro k i _ _ h; omega
  | succ n ih =>
    intro k i hi h0 hk
    rw [fn_Md_isNameAt_b24]
    cases k with
    | zero =>
      refine ⟨1, ?_, Or.inl ⟨rfl, fun j h1 h2 => by omega⟩⟩
      (try simp (disch := omega) only [↓zk_lt, ↓zk_nl, ↓zk_eq, ↓zk_ne, ↓zk_ix, ↓zk_dv, ↓zk_bo, ↓zk_rg, ↓zk_get, ↓zk_set, Option.bind_some])
    | succ k =>
      obtain ⟨b1, b2⟩ := H.2 (s + i) (by omega) (by omega)
      have hwi := hw (a + 1 + i) (by omega) (by omega)
      have ei : ((i.toNat : Nat) : Int) = i := by omega
      by_cases x : w (a + 1 + i) = f (s + i)
      · obtain ⟨r, k1, k2⟩ := ih k (i + 1) (by omega) (by omega) (by omega)
        refine ⟨r, ?_, ?_⟩
        · (try simp (disch := omega) only [↓zk_lt, ↓zk_nl, ↓zk_eq, ↓zk_ne, ↓zk_ix, ↓zk_dv, ↓zk_bo, ↓zk_rg, ↓zk_get, ↓zk_set, Option.bind_some])
          exact k1
        · have hiff : (∀ j : Nat, i + 1 ≤ j → j < m → w (a + 1 + j) = f (s + j)) ↔ (∀ j : Nat, i ≤ j → j < m → w (a + 1 + j) = f (s + j)) := by
            constructor
            · intro h j h1 h2
              by_cases y : (j : Int) = i
              · rw [y]; exact x
              · exact h j (by omega) h2
            · intro h j h1 h2
              exact h j (by omega) h2
          rcases k2 with ⟨rfl, k3⟩ | ⟨rfl, k3⟩
          · exact Or.inl ⟨rfl, hiff.mp k3⟩
          · exact Or.inr ⟨rfl, fun z => k3 (hiff.mpr z)⟩
      · refine ⟨0, ?_, Or.inr ⟨rfl, fun z => x ?_⟩⟩
        · (try simp (disch := omega) only [↓zk_lt, ↓zk_nl, ↓zk_eq, ↓zk_ne, ↓zk_ix, ↓zk_dv, ↓zk_bo, ↓zk_rg, ↓zk_get, ↓zk_set, Option.bind_some])
        · have := z i.toNat (by omega) (by omega)
          rw [ei] at this
          exact this
theorem find_both (H : pB len f1 f) {tn : Int} {nm w : Int → Int} (N : pN tn nm w) (ht : 0 ≤ tn ∧ tn ≤ 8) {s : Int} {m : Nat} (hs : 0 ≤ s) (hl : s + m ≤ len) (hm : 1 ≤ m ∧ m ≤ 6) (hL : pLet f s m) : ∃ r, fn_Topics_find tn nm (enc f s m) = some r ∧ fn_Md_topicHere w f (s + m) s = some r ∧ (r = -1 ∨ (0 ≤ r ∧ r < tn)) ∧ (r = -1 → ∀ j, 0 ≤ j → j < tn → ¬ nm j = enc f s m) := by
  have hF := jk_F_big
  have hb := H.1
  have hw0 := N.1
  have hv := enc_r m s hL
  have hp := p32 hm.2
  have e1 : ∀ (n k : Nat) (i : Int), i + k = tn → 0 ≤ i → (∀ j, 0 ≤ j → j < i → ¬ nm j = enc f s m) → k < n → ∃ r, fn_Topics_find_b2 n tn nm (enc f s m) i = some r ∧ fn_Md_topicHere_b2 n w f (s + m) s i = some r ∧ (r = -1 ∨ (0 ≤ r ∧ r < tn)) ∧ (r = -1 → ∀ j, 0 ≤ j → j < tn → ¬ nm j = enc f s m) := by
    intro n
    induction n with
    | zero => intro k i _ _ _ h; omega
    | succ n ih =>
      intro k i hi h0 hno hk
      rw [fn_Topics_find_b2, fn_Md_topicHere_b2]
      cases k with
      | zero =>
        refine ⟨-1, ?_, ?_, Or.inl rfl, fun _ j h1 h2 => hno j h1 (by omega)⟩
        · (try simp (disch := omega) only [↓zk_lt, ↓zk_nl, ↓zk_eq, ↓zk_ne, ↓zk_ix, ↓zk_dv, ↓zk_bo, ↓zk_rg, ↓zk_get, ↓zk_set, Option.bind_some])
        · (try simp (disch := omega) only [↓zk_lt, ↓zk_nl, ↓zk_eq, ↓zk_ne, ↓zk_ix, ↓zk_dv, ↓zk_bo, ↓zk_rg, ↓zk_get, ↓zk_set, Option.bind_some])
      | succ k =>
        obtain ⟨ni, a1, a2, a3, a4⟩ := N.2 i h0 (by omega)
        have hv2 := enc_r ni _ a3
        have hp2 := p32 a1.2
        have hinj := enc_inj ni m _ s a3 hL
        have hat : ∃ r, fn_Md_isNameAt w f (s + m) s (3 + 7 * i) = some r ∧ ((r = 1 ∧ nm i = enc f s m) ∨ (r = 0 ∧ ¬ nm i = enc f s m)) := by
          unfold fn_Md_isNameAt
          by_cases x : ni = m
          · subst x
            obtain ⟨r, k1, k2⟩ := m_nameAt H (w := w) (a := 3 + 7 * i) hs hl hm.2 (by omega) a3 jk_F ni 0 (by omega) (by omega) (by omega)
            refine ⟨r, ?_, ?_⟩
            · (try simp (disch := omega) only [↓zk_lt, ↓zk_nl, ↓zk_eq, ↓zk_ne, ↓zk_ix, ↓zk_dv, ↓zk_bo, ↓zk_rg, ↓zk_get, ↓zk_set, Option.bind_some])
              exact k1
            · rw [a4]
              rcases k2 with ⟨rfl, k3⟩ | ⟨rfl, k3⟩
              · exact Or.inl ⟨rfl, hinj.mpr ⟨rfl, fun j hj => k3 j (by omega) hj⟩⟩
              · exact Or.inr ⟨rfl, fun z => k3 (fun j _ hj => (hinj.mp z).2 j hj)⟩
          · refine ⟨0, ?_, Or.inr ⟨rfl, fun z => x ?_⟩⟩
            · (try simp (disch := omega) only [↓zk_lt, ↓zk_nl, ↓zk_eq, ↓zk_ne, ↓zk_ix, ↓zk_dv, ↓zk_bo, ↓zk_rg, ↓zk_get, ↓zk_set, Option.bind_some])
            · rw [a4] at z
              exact (hinj.mp z).1
        obtain ⟨r, k1, k2⟩ := hat
        have hnr : 0 ≤ nm i ∧ nm i < 1073741825 := by rw [a4]; omega
        rcases k2 with ⟨rfl, k3⟩ | ⟨rfl, k3⟩
        · refine ⟨i, ?_, ?_, Or.inr ⟨h0, by omega⟩, fun z => by omega⟩
          · (try simp (disch := omega) only [↓zk_lt, ↓zk_nl, ↓zk_eq, ↓zk_ne, ↓zk_ix, ↓zk_dv, ↓zk_bo, ↓zk_rg, ↓zk_get, ↓zk_set, Option.bind_some])
          · (try simp (disch := omega) only [↓zk_lt, ↓zk_nl, ↓zk_eq, ↓zk_ne, ↓zk_ix, ↓zk_dv, ↓zk_bo, ↓zk_rg, ↓zk_get, ↓zk_set, Option.bind_some])
            rw [zk_bd k1]
            (try simp (disch := omega) only [↓zk_lt, ↓zk_nl, ↓zk_eq, ↓zk_ne, ↓zk_ix, ↓zk_dv, ↓zk_bo, ↓zk_rg, ↓zk_get, ↓zk_set, Option.bind_some])
        · obtain ⟨r, l1, l2, l3, l4⟩ := ih k (i + 1) (by omega) (by omega) (fun j h1 h2 => by
            by_cases y : j = i
            · rw [y]; exact k3
            · exact hno j h1 (by omega)) (by omega)
          refine ⟨r, ?_, ?_, l3, l4⟩
          · (try simp (disch := omega) only [↓zk_lt, ↓zk_nl, ↓zk_eq, ↓zk_ne, ↓zk_ix, ↓zk_dv, ↓zk_bo, ↓zk_rg, ↓zk_get, ↓zk_set, Option.bind_some])
            exact l1
          · (try simp (disch := omega) only [↓zk_lt, ↓zk_nl, ↓zk_eq, ↓zk_ne, ↓zk_ix, ↓zk_dv, ↓zk_bo, ↓zk_rg, ↓zk_get, ↓zk_set, Option.bind_some])
            rw [zk_bd k1]
            (try simp (disch := omega) only [↓zk_lt, ↓zk_nl, ↓zk_eq, ↓zk_ne, ↓zk_ix, ↓zk_dv, ↓zk_bo, ↓zk_rg, ↓zk_get, ↓zk_set, Option.bind_some])
            exact l2
  unfold fn_Topics_find fn_Md_topicHere
  exact e1 jk_F tn.toNat 0 (by omega) (by omega) (fun j h1 h2 => by omega) (by omega)
end PT1
