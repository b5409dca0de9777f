theorem tm_462 : Jvm.Cond.methodLink "KnotReaderLaw" (134 : Nat) mn_KR_appendInput ∈ jk_WA := jk_tb 462 (by decide +kernel) (by decide +kernel)
theorem tm_463 : Jvm.Cond.instanceMethod mn_KR_appendInput ∈ jk_WA := jk_tb 463 (by decide +kernel) (by decide +kernel)
theorem tm_464 : Jvm.Cond.selects "KnotReader" mn_KR_appendInput mn_KR_appendInput ∈ jk_WA := jk_tb 464 (by decide +kernel) (by decide +kernel)
theorem tm_465 : Jvm.Cond.code mn_KR_appendInput prog_1_method_2_code (6 : Nat) (some .int) ∈ jk_WA := jk_tb 465 (by decide +kernel) (by decide +kernel)
theorem tm_1340 : Jvm.Cond.methodLink "KnotReaderLaw" (138 : Nat) mn_Md_appendInput ∈ jk_WA := jk_tb 1340 (by decide +kernel) (by decide +kernel)
theorem tm_1341 : Jvm.Cond.instanceMethod mn_Md_appendInput ∈ jk_WA := jk_tb 1341 (by decide +kernel) (by decide +kernel)
theorem tm_1342 : Jvm.Cond.selects "KnotReaderModel" mn_Md_appendInput mn_Md_appendInput ∈ jk_WA := jk_tb 1342 (by decide +kernel) (by decide +kernel)
theorem tm_1343 : Jvm.Cond.code mn_Md_appendInput prog_13_method_51_code (6 : Nat) (some .int) ∈ jk_WA := jk_tb 1343 (by decide +kernel) (by decide +kernel)
theorem tm_470 : Jvm.Cond.methodLink "KnotReaderLaw" (139 : Nat) mn_KR_truncateInput ∈ jk_WA := jk_tb 470 (by decide +kernel) (by decide +kernel)
theorem tm_471 : Jvm.Cond.instanceMethod mn_KR_truncateInput ∈ jk_WA := jk_tb 471 (by decide +kernel) (by decide +kernel)
theorem tm_472 : Jvm.Cond.selects "KnotReader" mn_KR_truncateInput mn_KR_truncateInput ∈ jk_WA := jk_tb 472 (by decide +kernel) (by decide +kernel)
theorem tm_473 : Jvm.Cond.code mn_KR_truncateInput prog_1_method_3_code (2 : Nat) (some .boolean) ∈ jk_WA := jk_tb 473 (by decide +kernel) (by decide +kernel)
theorem tm_1348 : Jvm.Cond.methodLink "KnotReaderLaw" (142 : Nat) mn_Md_truncateInput ∈ jk_WA := jk_tb 1348 (by decide +kernel) (by decide +kernel)
theorem tm_1349 : Jvm.Cond.instanceMethod mn_Md_truncateInput ∈ jk_WA := jk_tb 1349 (by decide +kernel) (by decide +kernel)
theorem tm_1350 : Jvm.Cond.selects "KnotReaderModel" mn_Md_truncateInput mn_Md_truncateInput ∈ jk_WA := jk_tb 1350 (by decide +kernel) (by decide +kernel)
theorem tm_1351 : Jvm.Cond.code mn_Md_truncateInput prog_13_method_52_code (2 : Nat) (some .boolean) ∈ jk_WA := jk_tb 1351 (by decide +kernel) (by decide +kernel)
theorem tm_474 : Jvm.Cond.methodLink "KnotReaderLaw" (143 : Nat) mn_KR_loadCords ∈ jk_WA := jk_tb 474 (by decide +kernel) (by decide +kernel)
theorem tm_475 : Jvm.Cond.instanceMethod mn_KR_loadCords ∈ jk_WA := jk_tb 475 (by decide +kernel) (by decide +kernel)
theorem tm_476 : Jvm.Cond.selects "KnotReader" mn_KR_loadCords mn_KR_loadCords ∈ jk_WA := jk_tb 476 (by decide +kernel) (by decide +kernel)
theorem tm_477 : Jvm.Cond.code mn_KR_loadCords prog_1_method_4_code (1 : Nat) (some .int) ∈ jk_WA := jk_tb 477 (by decide +kernel) (by decide +kernel)
theorem tm_1355 : Jvm.Cond.methodLink "KnotReaderLaw" (146 : Nat) mn_Md_loadCords ∈ jk_WA := jk_tb 1355 (by decide +kernel) (by decide +kernel)
theorem tm_1356 : Jvm.Cond.instanceMethod mn_Md_loadCords ∈ jk_WA := jk_tb 1356 (by decide +kernel) (by decide +kernel)
theorem tm_1357 : Jvm.Cond.selects "KnotReaderModel" mn_Md_loadCords mn_Md_loadCords ∈ jk_WA := jk_tb 1357 (by decide +kernel) (by decide +kernel)
theorem tm_1358 : Jvm.Cond.code mn_Md_loadCords prog_13_method_76_code (2 : Nat) (some .int) ∈ jk_WA := jk_tb 1358 (by decide +kernel) (by decide +kernel)
theorem tm_499 : Jvm.Cond.methodLink "KnotReaderLaw" (147 : Nat) mn_KR_runScript ∈ jk_WA := jk_tb 499 (by decide +kernel) (by decide +kernel)
theorem tm_500 : Jvm.Cond.instanceMethod mn_KR_runScript ∈ jk_WA := jk_tb 500 (by decide +kernel) (by decide +kernel)
theorem tm_501 : Jvm.Cond.selects "KnotReader" mn_KR_runScript mn_KR_runScript ∈ jk_WA := jk_tb 501 (by decide +kernel) (by decide +kernel)
theorem tm_502 : Jvm.Cond.code mn_KR_runScript prog_1_method_5_code (6 : Nat) (some .int) ∈ jk_WA := jk_tb 502 (by decide +kernel) (by decide +kernel)
theorem tm_1482 : Jvm.Cond.methodLink "KnotReaderLaw" (150 : Nat) mn_Md_runScript ∈ jk_WA := jk_tb 1482 (by decide +kernel) (by decide +kernel)
theorem tm_1483 : Jvm.Cond.instanceMethod mn_Md_runScript ∈ jk_WA := jk_tb 1483 (by decide +kernel) (by decide +kernel)
theorem tm_1484 : Jvm.Cond.selects "KnotReaderModel" mn_Md_runScript mn_Md_runScript ∈ jk_WA := jk_tb 1484 (by decide +kernel) (by decide +kernel)
theorem tm_1485 : Jvm.Cond.code mn_Md_runScript prog_13_method_86_code (3 : Nat) (some .int) ∈ jk_WA := jk_tb 1485 (by decide +kernel) (by decide +kernel)
theorem tm_675 : Jvm.Cond.methodLink "KnotReaderLaw" (151 : Nat) mn_KR_errorCode ∈ jk_WA := jk_tb 675 (by decide +kernel) (by decide +kernel)
theorem tm_676 : Jvm.Cond.instanceMethod mn_KR_errorCode ∈ jk_WA := jk_tb 676 (by decide +kernel) (by decide +kernel)
theorem tm_677 : Jvm.Cond.selects "KnotReader" mn_KR_errorCode mn_KR_errorCode ∈ jk_WA := jk_tb 677 (by decide +kernel) (by decide +kernel)
theorem tm_678 : Jvm.Cond.code mn_KR_errorCode prog_1_method_7_code (1 : Nat) (some .int) ∈ jk_WA := jk_tb 678 (by decide +kernel) (by decide +kernel)
theorem tm_1615 : Jvm.Cond.methodLink "KnotReaderLaw" (154 : Nat) mn_Md_errorCode ∈ jk_WA := jk_tb 1615 (by decide +kernel) (by decide +kernel)
theorem tm_1616 : Jvm.Cond.instanceMethod mn_Md_errorCode ∈ jk_WA := jk_tb 1616 (by decide +kernel) (by decide +kernel)
theorem tm_1617 : Jvm.Cond.selects "KnotReaderModel" mn_Md_errorCode mn_Md_errorCode ∈ jk_WA := jk_tb 1617 (by decide +kernel) (by decide +kernel)
theorem tm_1618 : Jvm.Cond.code mn_Md_errorCode prog_13_method_87_code (1 : Nat) (some .int) ∈ jk_WA := jk_tb 1618 (by decide +kernel) (by decide +kernel)
theorem tm_679 : Jvm.Cond.methodLink "KnotReaderLaw" (155 : Nat) mn_KR_errorOffset ∈ jk_WA := jk_tb 679 (by decide +kernel) (by decide +kernel)
theorem tm_680 : Jvm.Cond.instanceMethod mn_KR_errorOffset ∈ jk_WA := jk_tb 680 (by decide +kernel) (by decide +kernel)
theorem tm_681 : Jvm.Cond.selects "KnotReader" mn_KR_errorOffset mn_KR_errorOffset ∈ jk_WA := jk_tb 681 (by decide +kernel) (by decide +kernel)
theorem tm_682 : Jvm.Cond.code mn_KR_errorOffset prog_1_method_8_code (1 : Nat) (some .int) ∈ jk_WA := jk_tb 682 (by decide +kernel) (by decide +kernel)
theorem tm_1619 : Jvm.Cond.methodLink "KnotReaderLaw" (158 : Nat) mn_Md_errorOffset ∈ jk_WA := jk_tb 1619 (by decide +kernel) (by decide +kernel)
theorem tm_1620 : Jvm.Cond.instanceMethod mn_Md_errorOffset ∈ jk_WA := jk_tb 1620 (by decide +kernel) (by decide +kernel)
theorem tm_1621 : Jvm.Cond.selects "KnotReaderModel" mn_Md_errorOffset mn_Md_errorOffset ∈ jk_WA := jk_tb 1621 (by decide +kernel) (by decide +kernel)
theorem tm_1622 : Jvm.Cond.code mn_Md_errorOffset prog_13_method_88_code (1 : Nat) (some .int) ∈ jk_WA := jk_tb 1622 (by decide +kernel) (by decide +kernel)
theorem tm_683 : Jvm.Cond.methodLink "KnotReaderLaw" (159 : Nat) mn_KR_topicCount ∈ jk_WA := jk_tb 683 (by decide +kernel) (by decide +kernel)
theorem tm_684 : Jvm.Cond.instanceMethod mn_KR_topicCount ∈ jk_WA := jk_tb 684 (by decide +kernel) (by decide +kernel)
theorem tm_685 : Jvm.Cond.selects "KnotReader" mn_KR_topicCount mn_KR_topicCount ∈ jk_WA := jk_tb 685 (by decide +kernel) (by decide +kernel)
theorem tm_686 : Jvm.Cond.code mn_KR_topicCount prog_1_method_9_code (1 : Nat) (some .int) ∈ jk_WA := jk_tb 686 (by decide +kernel) (by decide +kernel)
theorem tm_1623 : Jvm.Cond.methodLink "KnotReaderLaw" (162 : Nat) mn_Md_topicCount ∈ jk_WA := jk_tb 1623 (by decide +kernel) (by decide +kernel)
theorem tm_1624 : Jvm.Cond.instanceMethod mn_Md_topicCount ∈ jk_WA := jk_tb 1624 (by decide +kernel) (by decide +kernel)
theorem tm_1625 : Jvm.Cond.selects "KnotReaderModel" mn_Md_topicCount mn_Md_topicCount ∈ jk_WA := jk_tb 1625 (by decide +kernel) (by decide +kernel)
theorem tm_1626 : Jvm.Cond.code mn_Md_topicCount prog_13_method_89_code (1 : Nat) (some .int) ∈ jk_WA := jk_tb 1626 (by decide +kernel) (by decide +kernel)
theorem tm_687 : Jvm.Cond.methodLink "KnotReaderLaw" (163 : Nat) mn_KR_clusterCount ∈ jk_WA := jk_tb 687 (by decide +kernel) (by decide +kernel)
theorem tm_688 : Jvm.Cond.instanceMethod mn_KR_clusterCount ∈ jk_WA := jk_tb 688 (by decide +kernel) (by decide +kernel)
theorem tm_689 : Jvm.Cond.selects "KnotReader" mn_KR_clusterCount mn_KR_clusterCount ∈ jk_WA := jk_tb 689 (by decide +kernel) (by decide +kernel)
theorem tm_690 : Jvm.Cond.code mn_KR_clusterCount prog_1_method_10_code (1 : Nat) (some .int) ∈ jk_WA := jk_tb 690 (by decide +kernel) (by decide +kernel)
theorem tm_1627 : Jvm.Cond.methodLink "KnotReaderLaw" (166 : Nat) mn_Md_clusterCount ∈ jk_WA := jk_tb 1627 (by decide +kernel) (by decide +kernel)
theorem tm_1628 : Jvm.Cond.instanceMethod mn_Md_clusterCount ∈ jk_WA := jk_tb 1628 (by decide +kernel) (by decide +kernel)
theorem tm_1629 : Jvm.Cond.selects "KnotReaderModel" mn_Md_clusterCount mn_Md_clusterCount ∈ jk_WA := jk_tb 1629 (by decide +kernel) (by decide +kernel)
theorem tm_1630 : Jvm.Cond.code mn_Md_clusterCount prog_13_method_90_code (1 : Nat) (some .int) ∈ jk_WA := jk_tb 1630 (by decide +kernel) (by decide +kernel)
theorem tm_691 : Jvm.Cond.methodLink "KnotReaderLaw" (167 : Nat) mn_KR_cordCount ∈ jk_WA := jk_tb 691 (by decide +kernel) (by decide +kernel)
theorem tm_692 : Jvm.Cond.instanceMethod mn_KR_cordCount ∈ jk_WA := jk_tb 692 (by decide +kernel) (by decide +kernel)
theorem tm_693 : Jvm.Cond.selects "KnotReader" mn_KR_cordCount mn_KR_cordCount ∈ jk_WA := jk_tb 693 (by decide +kernel) (by decide +kernel)
theorem tm_694 : Jvm.Cond.code mn_KR_cordCount prog_1_method_11_code (1 : Nat) (some .int) ∈ jk_WA := jk_tb 694 (by decide +kernel) (by decide +kernel)
theorem tm_1631 : Jvm.Cond.methodLink "KnotReaderLaw" (170 : Nat) mn_Md_cordCount ∈ jk_WA := jk_tb 1631 (by decide +kernel) (by decide +kernel)
theorem tm_1632 : Jvm.Cond.instanceMethod mn_Md_cordCount ∈ jk_WA := jk_tb 1632 (by decide +kernel) (by decide +kernel)
theorem tm_1633 : Jvm.Cond.selects "KnotReaderModel" mn_Md_cordCount mn_Md_cordCount ∈ jk_WA := jk_tb 1633 (by decide +kernel) (by decide +kernel)
theorem tm_1634 : Jvm.Cond.code mn_Md_cordCount prog_13_method_91_code (1 : Nat) (some .int) ∈ jk_WA := jk_tb 1634 (by decide +kernel) (by decide +kernel)
theorem tm_695 : Jvm.Cond.methodLink "KnotReaderLaw" (171 : Nat) mn_KR_knotCount ∈ jk_WA := jk_tb 695 (by decide +kernel) (by decide +kernel)
theorem tm_696 : Jvm.Cond.instanceMethod mn_KR_knotCount ∈ jk_WA := jk_tb 696 (by decide +kernel) (by decide +kernel)
theorem tm_697 : Jvm.Cond.selects "KnotReader" mn_KR_knotCount mn_KR_knotCount ∈ jk_WA := jk_tb 697 (by decide +kernel) (by decide +kernel)
theorem tm_698 : Jvm.Cond.code mn_KR_knotCount prog_1_method_12_code (3 : Nat) (some .int) ∈ jk_WA := jk_tb 698 (by decide +kernel) (by decide +kernel)
theorem tm_1731 : Jvm.Cond.methodLink "KnotReaderLaw" (174 : Nat) mn_Md_knotCount ∈ jk_WA := jk_tb 1731 (by decide +kernel) (by decide +kernel)
theorem tm_1732 : Jvm.Cond.instanceMethod mn_Md_knotCount ∈ jk_WA := jk_tb 1732 (by decide +kernel) (by decide +kernel)
theorem tm_1733 : Jvm.Cond.selects "KnotReaderModel" mn_Md_knotCount mn_Md_knotCount ∈ jk_WA := jk_tb 1733 (by decide +kernel) (by decide +kernel)
theorem tm_1734 : Jvm.Cond.code mn_Md_knotCount prog_13_method_111_code (3 : Nat) (some .int) ∈ jk_WA := jk_tb 1734 (by decide +kernel) (by decide +kernel)
theorem tm_700 : Jvm.Cond.methodLink "KnotReaderLaw" (175 : Nat) mn_KR_nibbledCount ∈ jk_WA := jk_tb 700 (by decide +kernel) (by decide +kernel)
theorem tm_701 : Jvm.Cond.instanceMethod mn_KR_nibbledCount ∈ jk_WA := jk_tb 701 (by decide +kernel) (by decide +kernel)
theorem tm_702 : Jvm.Cond.selects "KnotReader" mn_KR_nibbledCount mn_KR_nibbledCount ∈ jk_WA := jk_tb 702 (by decide +kernel) (by decide +kernel)
theorem tm_703 : Jvm.Cond.code mn_KR_nibbledCount prog_1_method_13_code (1 : Nat) (some .int) ∈ jk_WA := jk_tb 703 (by decide +kernel) (by decide +kernel)
theorem tm_1735 : Jvm.Cond.methodLink "KnotReaderLaw" (178 : Nat) mn_Md_nibbledCount ∈ jk_WA := jk_tb 1735 (by decide +kernel) (by decide +kernel)
theorem tm_1736 : Jvm.Cond.instanceMethod mn_Md_nibbledCount ∈ jk_WA := jk_tb 1736 (by decide +kernel) (by decide +kernel)
theorem tm_1737 : Jvm.Cond.selects "KnotReaderModel" mn_Md_nibbledCount mn_Md_nibbledCount ∈ jk_WA := jk_tb 1737 (by decide +kernel) (by decide +kernel)
theorem tm_1738 : Jvm.Cond.code mn_Md_nibbledCount prog_13_method_113_code (1 : Nat) (some .int) ∈ jk_WA := jk_tb 1738 (by decide +kernel) (by decide +kernel)
theorem tm_705 : Jvm.Cond.methodLink "KnotReaderLaw" (179 : Nat) mn_KR_matchingCount ∈ jk_WA := jk_tb 705 (by decide +kernel) (by decide +kernel)
theorem tm_706 : Jvm.Cond.instanceMethod mn_KR_matchingCount ∈ jk_WA := jk_tb 706 (by decide +kernel) (by decide +kernel)
theorem tm_707 : Jvm.Cond.selects "KnotReader" mn_KR_matchingCount mn_KR_matchingCount ∈ jk_WA := jk_tb 707 (by decide +kernel) (by decide +kernel)
theorem tm_708 : Jvm.Cond.code mn_KR_matchingCount prog_1_method_14_code (3 : Nat) (some .int) ∈ jk_WA := jk_tb 708 (by decide +kernel) (by decide +kernel)
theorem tm_1743 : Jvm.Cond.methodLink "KnotReaderLaw" (182 : Nat) mn_Md_matchingCount ∈ jk_WA := jk_tb 1743 (by decide +kernel) (by decide +kernel)
theorem tm_1744 : Jvm.Cond.instanceMethod mn_Md_matchingCount ∈ jk_WA := jk_tb 1744 (by decide +kernel) (by decide +kernel)
theorem tm_1745 : Jvm.Cond.selects "KnotReaderModel" mn_Md_matchingCount mn_Md_matchingCount ∈ jk_WA := jk_tb 1745 (by decide +kernel) (by decide +kernel)
theorem tm_1746 : Jvm.Cond.code mn_Md_matchingCount prog_13_method_114_code (3 : Nat) (some .int) ∈ jk_WA := jk_tb 1746 (by decide +kernel) (by decide +kernel)
theorem tm_784 : Jvm.Cond.methodLink "KnotReaderLaw" (183 : Nat) mn_Law_topicByte ∈ jk_WA := jk_tb 784 (by decide +kernel) (by decide +kernel)
theorem tm_0 : Jvm.Cond.initialized "KnotReaderLaw" ∈ jk_WA := jk_tb 0 (by decide +kernel) (by decide +kernel)
theorem tm_1747 : Jvm.Cond.methodLink "KnotReaderLaw" (188 : Nat) mn_Md_topicByte ∈ jk_WA := jk_tb 1747 (by decide +kernel) (by decide +kernel)
theorem tm_1748 : Jvm.Cond.instanceMethod mn_Md_topicByte ∈ jk_WA := jk_tb 1748 (by decide +kernel) (by decide +kernel)
theorem tm_1749 : Jvm.Cond.selects "KnotReaderModel" mn_Md_topicByte mn_Md_topicByte ∈ jk_WA := jk_tb 1749 (by decide +kernel) (by decide +kernel)
theorem tm_1750 : Jvm.Cond.code mn_Md_topicByte prog_13_method_115_code (3 : Nat) (some .int) ∈ jk_WA := jk_tb 1750 (by decide +kernel) (by decide +kernel)
theorem tm_1336 : Jvm.Cond.methodLink "KnotReaderLaw" (189 : Nat) mn_Md_thrown ∈ jk_WA := jk_tb 1336 (by decide +kernel) (by decide +kernel)
theorem tm_1337 : Jvm.Cond.instanceMethod mn_Md_thrown ∈ jk_WA := jk_tb 1337 (by decide +kernel) (by decide +kernel)
theorem tm_1338 : Jvm.Cond.selects "KnotReaderModel" mn_Md_thrown mn_Md_thrown ∈ jk_WA := jk_tb 1338 (by decide +kernel) (by decide +kernel)
theorem tm_1339 : Jvm.Cond.code mn_Md_thrown prog_13_method_2_code (1 : Nat) (some .int) ∈ jk_WA := jk_tb 1339 (by decide +kernel) (by decide +kernel)
theorem tm_868 : Jvm.Cond.methodLink "KnotReaderLaw" (192 : Nat) mn_Law_clusterOf ∈ jk_WA := jk_tb 868 (by decide +kernel) (by decide +kernel)
theorem tm_1635 : Jvm.Cond.methodLink "KnotReaderLaw" (195 : Nat) mn_Md_clusterOf ∈ jk_WA := jk_tb 1635 (by decide +kernel) (by decide +kernel)
theorem tm_1636 : Jvm.Cond.instanceMethod mn_Md_clusterOf ∈ jk_WA := jk_tb 1636 (by decide +kernel) (by decide +kernel)
theorem tm_1637 : Jvm.Cond.selects "KnotReaderModel" mn_Md_clusterOf mn_Md_clusterOf ∈ jk_WA := jk_tb 1637 (by decide +kernel) (by decide +kernel)
theorem tm_1638 : Jvm.Cond.code mn_Md_clusterOf prog_13_method_95_code (2 : Nat) (some .int) ∈ jk_WA := jk_tb 1638 (by decide +kernel) (by decide +kernel)
theorem tm_880 : Jvm.Cond.methodLink "KnotReaderLaw" (196 : Nat) mn_Law_depthOf ∈ jk_WA := jk_tb 880 (by decide +kernel) (by decide +kernel)
theorem tm_1647 : Jvm.Cond.methodLink "KnotReaderLaw" (198 : Nat) mn_Md_depthOf ∈ jk_WA := jk_tb 1647 (by decide +kernel) (by decide +kernel)
theorem tm_1648 : Jvm.Cond.instanceMethod mn_Md_depthOf ∈ jk_WA := jk_tb 1648 (by decide +kernel) (by decide +kernel)
theorem tm_1649 : Jvm.Cond.selects "KnotReaderModel" mn_Md_depthOf mn_Md_depthOf ∈ jk_WA := jk_tb 1649 (by decide +kernel) (by decide +kernel)
theorem tm_1650 : Jvm.Cond.code mn_Md_depthOf prog_13_method_96_code (2 : Nat) (some .int) ∈ jk_WA := jk_tb 1650 (by decide +kernel) (by decide +kernel)
theorem tm_887 : Jvm.Cond.methodLink "KnotReaderLaw" (199 : Nat) mn_Law_parentOf ∈ jk_WA := jk_tb 887 (by decide +kernel) (by decide +kernel)
theorem tm_1651 : Jvm.Cond.methodLink "KnotReaderLaw" (201 : Nat) mn_Md_parentOf ∈ jk_WA := jk_tb 1651 (by decide +kernel) (by decide +kernel)
theorem tm_1652 : Jvm.Cond.instanceMethod mn_Md_parentOf ∈ jk_WA := jk_tb 1652 (by decide +kernel) (by decide +kernel)
theorem tm_1653 : Jvm.Cond.selects "KnotReaderModel" mn_Md_parentOf mn_Md_parentOf ∈ jk_WA := jk_tb 1653 (by decide +kernel) (by decide +kernel)
theorem tm_1654 : Jvm.Cond.code mn_Md_parentOf prog_13_method_97_code (2 : Nat) (some .int) ∈ jk_WA := jk_tb 1654 (by decide +kernel) (by decide +kernel)
theorem tm_899 : Jvm.Cond.methodLink "KnotReaderLaw" (202 : Nat) mn_Law_topicOf ∈ jk_WA := jk_tb 899 (by decide +kernel) (by decide +kernel)
theorem tm_1659 : Jvm.Cond.methodLink "KnotReaderLaw" (204 : Nat) mn_Md_topicOf ∈ jk_WA := jk_tb 1659 (by decide +kernel) (by decide +kernel)
theorem tm_1660 : Jvm.Cond.instanceMethod mn_Md_topicOf ∈ jk_WA := jk_tb 1660 (by decide +kernel) (by decide +kernel)
theorem tm_1661 : Jvm.Cond.selects "KnotReaderModel" mn_Md_topicOf mn_Md_topicOf ∈ jk_WA := jk_tb 1661 (by decide +kernel) (by decide +kernel)
theorem tm_1662 : Jvm.Cond.code mn_Md_topicOf prog_13_method_98_code (2 : Nat) (some .int) ∈ jk_WA := jk_tb 1662 (by decide +kernel) (by decide +kernel)
theorem tm_906 : Jvm.Cond.methodLink "KnotReaderLaw" (205 : Nat) mn_Law_subsidiariesOf ∈ jk_WA := jk_tb 906 (by decide +kernel) (by decide +kernel)
theorem tm_1663 : Jvm.Cond.methodLink "KnotReaderLaw" (207 : Nat) mn_Md_subsidiariesOf ∈ jk_WA := jk_tb 1663 (by decide +kernel) (by decide +kernel)
theorem tm_1664 : Jvm.Cond.instanceMethod mn_Md_subsidiariesOf ∈ jk_WA := jk_tb 1664 (by decide +kernel) (by decide +kernel)
theorem tm_1665 : Jvm.Cond.selects "KnotReaderModel" mn_Md_subsidiariesOf mn_Md_subsidiariesOf ∈ jk_WA := jk_tb 1665 (by decide +kernel) (by decide +kernel)
theorem tm_1666 : Jvm.Cond.code mn_Md_subsidiariesOf prog_13_method_99_code (2 : Nat) (some .int) ∈ jk_WA := jk_tb 1666 (by decide +kernel) (by decide +kernel)
theorem tm_917 : Jvm.Cond.methodLink "KnotReaderLaw" (208 : Nat) mn_Law_nibbledPlaces ∈ jk_WA := jk_tb 917 (by decide +kernel) (by decide +kernel)
theorem tm_1671 : Jvm.Cond.methodLink "KnotReaderLaw" (210 : Nat) mn_Md_nibbledPlaces ∈ jk_WA := jk_tb 1671 (by decide +kernel) (by decide +kernel)
theorem tm_1672 : Jvm.Cond.instanceMethod mn_Md_nibbledPlaces ∈ jk_WA := jk_tb 1672 (by decide +kernel) (by decide +kernel)
theorem tm_1673 : Jvm.Cond.selects "KnotReaderModel" mn_Md_nibbledPlaces mn_Md_nibbledPlaces ∈ jk_WA := jk_tb 1673 (by decide +kernel) (by decide +kernel)
theorem tm_1674 : Jvm.Cond.code mn_Md_nibbledPlaces prog_13_method_100_code (2 : Nat) (some .int) ∈ jk_WA := jk_tb 1674 (by decide +kernel) (by decide +kernel)
theorem tm_924 : Jvm.Cond.methodLink "KnotReaderLaw" (211 : Nat) mn_Law_knownValue ∈ jk_WA := jk_tb 924 (by decide +kernel) (by decide +kernel)
theorem tm_1675 : Jvm.Cond.methodLink "KnotReaderLaw" (213 : Nat) mn_Md_knownValue ∈ jk_WA := jk_tb 1675 (by decide +kernel) (by decide +kernel)
theorem tm_1676 : Jvm.Cond.instanceMethod mn_Md_knownValue ∈ jk_WA := jk_tb 1676 (by decide +kernel) (by decide +kernel)
theorem tm_1677 : Jvm.Cond.selects "KnotReaderModel" mn_Md_knownValue mn_Md_knownValue ∈ jk_WA := jk_tb 1677 (by decide +kernel) (by decide +kernel)
theorem tm_1678 : Jvm.Cond.code mn_Md_knownValue prog_13_method_101_code (2 : Nat) (some .int) ∈ jk_WA := jk_tb 1678 (by decide +kernel) (by decide +kernel)
theorem tm_931 : Jvm.Cond.methodLink "KnotReaderLaw" (214 : Nat) mn_Law_lowestTotal ∈ jk_WA := jk_tb 931 (by decide +kernel) (by decide +kernel)
theorem tm_1679 : Jvm.Cond.methodLink "KnotReaderLaw" (216 : Nat) mn_Md_lowestTotal ∈ jk_WA := jk_tb 1679 (by decide +kernel) (by decide +kernel)
theorem tm_1680 : Jvm.Cond.instanceMethod mn_Md_lowestTotal ∈ jk_WA := jk_tb 1680 (by decide +kernel) (by decide +kernel)
theorem tm_1681 : Jvm.Cond.selects "KnotReaderModel" mn_Md_lowestTotal mn_Md_lowestTotal ∈ jk_WA := jk_tb 1681 (by decide +kernel) (by decide +kernel)
theorem tm_1682 : Jvm.Cond.code mn_Md_lowestTotal prog_13_method_102_code (2 : Nat) (some .int) ∈ jk_WA := jk_tb 1682 (by decide +kernel) (by decide +kernel)
theorem tm_938 : Jvm.Cond.methodLink "KnotReaderLaw" (217 : Nat) mn_Law_highestTotal ∈ jk_WA := jk_tb 938 (by decide +kernel) (by decide +kernel)
theorem tm_1687 : Jvm.Cond.methodLink "KnotReaderLaw" (219 : Nat) mn_Md_highestTotal ∈ jk_WA := jk_tb 1687 (by decide +kernel) (by decide +kernel)
theorem tm_1688 : Jvm.Cond.instanceMethod mn_Md_highestTotal ∈ jk_WA := jk_tb 1688 (by decide +kernel) (by decide +kernel)
theorem tm_1689 : Jvm.Cond.selects "KnotReaderModel" mn_Md_highestTotal mn_Md_highestTotal ∈ jk_WA := jk_tb 1689 (by decide +kernel) (by decide +kernel)
theorem tm_1690 : Jvm.Cond.code mn_Md_highestTotal prog_13_method_103_code (2 : Nat) (some .int) ∈ jk_WA := jk_tb 1690 (by decide +kernel) (by decide +kernel)
theorem tm_946 : Jvm.Cond.methodLink "KnotReaderLaw" (220 : Nat) mn_Law_knotsAt ∈ jk_WA := jk_tb 946 (by decide +kernel) (by decide +kernel)
theorem tm_1763 : Jvm.Cond.methodLink "KnotReaderLaw" (222 : Nat) mn_Md_knotsAt ∈ jk_WA := jk_tb 1763 (by decide +kernel) (by decide +kernel)
theorem tm_1764 : Jvm.Cond.instanceMethod mn_Md_knotsAt ∈ jk_WA := jk_tb 1764 (by decide +kernel) (by decide +kernel)
theorem tm_1765 : Jvm.Cond.selects "KnotReaderModel" mn_Md_knotsAt mn_Md_knotsAt ∈ jk_WA := jk_tb 1765 (by decide +kernel) (by decide +kernel)
theorem tm_1766 : Jvm.Cond.code mn_Md_knotsAt prog_13_method_116_code (3 : Nat) (some .int) ∈ jk_WA := jk_tb 1766 (by decide +kernel) (by decide +kernel)
theorem tm_971 : Jvm.Cond.methodLink "KnotReaderLaw" (223 : Nat) mn_Law_isComplete ∈ jk_WA := jk_tb 971 (by decide +kernel) (by decide +kernel)
theorem tm_1767 : Jvm.Cond.methodLink "KnotReaderLaw" (225 : Nat) mn_Md_isComplete ∈ jk_WA := jk_tb 1767 (by decide +kernel) (by decide +kernel)
theorem tm_1768 : Jvm.Cond.instanceMethod mn_Md_isComplete ∈ jk_WA := jk_tb 1768 (by decide +kernel) (by decide +kernel)
theorem tm_1769 : Jvm.Cond.selects "KnotReaderModel" mn_Md_isComplete mn_Md_isComplete ∈ jk_WA := jk_tb 1769 (by decide +kernel) (by decide +kernel)
theorem tm_1770 : Jvm.Cond.code mn_Md_isComplete prog_13_method_117_code (2 : Nat) (some .boolean) ∈ jk_WA := jk_tb 1770 (by decide +kernel) (by decide +kernel)
theorem tm_978 : Jvm.Cond.methodLink "KnotReaderLaw" (226 : Nat) mn_Law_totalOf ∈ jk_WA := jk_tb 978 (by decide +kernel) (by decide +kernel)
theorem tm_1775 : Jvm.Cond.methodLink "KnotReaderLaw" (228 : Nat) mn_Md_totalOf ∈ jk_WA := jk_tb 1775 (by decide +kernel) (by decide +kernel)
theorem tm_1776 : Jvm.Cond.instanceMethod mn_Md_totalOf ∈ jk_WA := jk_tb 1776 (by decide +kernel) (by decide +kernel)
theorem tm_1777 : Jvm.Cond.selects "KnotReaderModel" mn_Md_totalOf mn_Md_totalOf ∈ jk_WA := jk_tb 1777 (by decide +kernel) (by decide +kernel)
theorem tm_1778 : Jvm.Cond.code mn_Md_totalOf prog_13_method_118_code (2 : Nat) (some .int) ∈ jk_WA := jk_tb 1778 (by decide +kernel) (by decide +kernel)
theorem tm_1002 : Jvm.Cond.methodLink "KnotReaderLaw" (229 : Nat) mn_Law_pendantsIn ∈ jk_WA := jk_tb 1002 (by decide +kernel) (by decide +kernel)
theorem tm_1695 : Jvm.Cond.methodLink "KnotReaderLaw" (231 : Nat) mn_Md_pendantsIn ∈ jk_WA := jk_tb 1695 (by decide +kernel) (by decide +kernel)
theorem tm_1696 : Jvm.Cond.instanceMethod mn_Md_pendantsIn ∈ jk_WA := jk_tb 1696 (by decide +kernel) (by decide +kernel)
theorem tm_1697 : Jvm.Cond.selects "KnotReaderModel" mn_Md_pendantsIn mn_Md_pendantsIn ∈ jk_WA := jk_tb 1697 (by decide +kernel) (by decide +kernel)
theorem tm_1698 : Jvm.Cond.code mn_Md_pendantsIn prog_13_method_104_code (2 : Nat) (some .int) ∈ jk_WA := jk_tb 1698 (by decide +kernel) (by decide +kernel)
theorem tm_1014 : Jvm.Cond.methodLink "KnotReaderLaw" (232 : Nat) mn_Law_cordsIn ∈ jk_WA := jk_tb 1014 (by decide +kernel) (by decide +kernel)
theorem tm_1703 : Jvm.Cond.methodLink "KnotReaderLaw" (234 : Nat) mn_Md_cordsIn ∈ jk_WA := jk_tb 1703 (by decide +kernel) (by decide +kernel)
theorem tm_1704 : Jvm.Cond.instanceMethod mn_Md_cordsIn ∈ jk_WA := jk_tb 1704 (by decide +kernel) (by decide +kernel)
theorem tm_1705 : Jvm.Cond.selects "KnotReaderModel" mn_Md_cordsIn mn_Md_cordsIn ∈ jk_WA := jk_tb 1705 (by decide +kernel) (by decide +kernel)
theorem tm_1706 : Jvm.Cond.code mn_Md_cordsIn prog_13_method_105_code (2 : Nat) (some .int) ∈ jk_WA := jk_tb 1706 (by decide +kernel) (by decide +kernel)
theorem tm_1021 : Jvm.Cond.methodLink "KnotReaderLaw" (235 : Nat) mn_Law_topOf ∈ jk_WA := jk_tb 1021 (by decide +kernel) (by decide +kernel)
theorem tm_1707 : Jvm.Cond.methodLink "KnotReaderLaw" (237 : Nat) mn_Md_topOf ∈ jk_WA := jk_tb 1707 (by decide +kernel) (by decide +kernel)
theorem tm_1708 : Jvm.Cond.instanceMethod mn_Md_topOf ∈ jk_WA := jk_tb 1708 (by decide +kernel) (by decide +kernel)
theorem tm_1709 : Jvm.Cond.selects "KnotReaderModel" mn_Md_topOf mn_Md_topOf ∈ jk_WA := jk_tb 1709 (by decide +kernel) (by decide +kernel)
theorem tm_1710 : Jvm.Cond.code mn_Md_topOf prog_13_method_106_code (2 : Nat) (some .int) ∈ jk_WA := jk_tb 1710 (by decide +kernel) (by decide +kernel)
theorem tm_1028 : Jvm.Cond.methodLink "KnotReaderLaw" (238 : Nat) mn_Law_firstPendant ∈ jk_WA := jk_tb 1028 (by decide +kernel) (by decide +kernel)
theorem tm_1711 : Jvm.Cond.methodLink "KnotReaderLaw" (240 : Nat) mn_Md_firstPendant ∈ jk_WA := jk_tb 1711 (by decide +kernel) (by decide +kernel)
theorem tm_1712 : Jvm.Cond.instanceMethod mn_Md_firstPendant ∈ jk_WA := jk_tb 1712 (by decide +kernel) (by decide +kernel)
theorem tm_1713 : Jvm.Cond.selects "KnotReaderModel" mn_Md_firstPendant mn_Md_firstPendant ∈ jk_WA := jk_tb 1713 (by decide +kernel) (by decide +kernel)
theorem tm_1714 : Jvm.Cond.code mn_Md_firstPendant prog_13_method_107_code (2 : Nat) (some .int) ∈ jk_WA := jk_tb 1714 (by decide +kernel) (by decide +kernel)
theorem tm_1036 : Jvm.Cond.methodLink "KnotReaderLaw" (241 : Nat) mn_Law_stateOf ∈ jk_WA := jk_tb 1036 (by decide +kernel) (by decide +kernel)
theorem tm_1715 : Jvm.Cond.methodLink "KnotReaderLaw" (243 : Nat) mn_Md_stateOf ∈ jk_WA := jk_tb 1715 (by decide +kernel) (by decide +kernel)
theorem tm_1716 : Jvm.Cond.instanceMethod mn_Md_stateOf ∈ jk_WA := jk_tb 1716 (by decide +kernel) (by decide +kernel)
theorem tm_1717 : Jvm.Cond.selects "KnotReaderModel" mn_Md_stateOf mn_Md_stateOf ∈ jk_WA := jk_tb 1717 (by decide +kernel) (by decide +kernel)
theorem tm_1718 : Jvm.Cond.code mn_Md_stateOf prog_13_method_108_code (2 : Nat) (some .int) ∈ jk_WA := jk_tb 1718 (by decide +kernel) (by decide +kernel)
theorem tm_1043 : Jvm.Cond.methodLink "KnotReaderLaw" (244 : Nat) mn_Law_guessObstacle ∈ jk_WA := jk_tb 1043 (by decide +kernel) (by decide +kernel)
theorem tm_1723 : Jvm.Cond.methodLink "KnotReaderLaw" (246 : Nat) mn_Md_guessObstacle ∈ jk_WA := jk_tb 1723 (by decide +kernel) (by decide +kernel)
theorem tm_1724 : Jvm.Cond.instanceMethod mn_Md_guessObstacle ∈ jk_WA := jk_tb 1724 (by decide +kernel) (by decide +kernel)
theorem tm_1725 : Jvm.Cond.selects "KnotReaderModel" mn_Md_guessObstacle mn_Md_guessObstacle ∈ jk_WA := jk_tb 1725 (by decide +kernel) (by decide +kernel)
theorem tm_1726 : Jvm.Cond.code mn_Md_guessObstacle prog_13_method_109_code (2 : Nat) (some .int) ∈ jk_WA := jk_tb 1726 (by decide +kernel) (by decide +kernel)
theorem tm_1050 : Jvm.Cond.methodLink "KnotReaderLaw" (247 : Nat) mn_Law_sumOf ∈ jk_WA := jk_tb 1050 (by decide +kernel) (by decide +kernel)
theorem tm_1779 : Jvm.Cond.methodLink "KnotReaderLaw" (249 : Nat) mn_Md_sumOf ∈ jk_WA := jk_tb 1779 (by decide +kernel) (by decide +kernel)
theorem tm_1780 : Jvm.Cond.instanceMethod mn_Md_sumOf ∈ jk_WA := jk_tb 1780 (by decide +kernel) (by decide +kernel)
theorem tm_1781 : Jvm.Cond.selects "KnotReaderModel" mn_Md_sumOf mn_Md_sumOf ∈ jk_WA := jk_tb 1781 (by decide +kernel) (by decide +kernel)
theorem tm_1782 : Jvm.Cond.code mn_Md_sumOf prog_13_method_119_code (2 : Nat) (some .int) ∈ jk_WA := jk_tb 1782 (by decide +kernel) (by decide +kernel)
theorem tm_1058 : Jvm.Cond.methodLink "KnotReaderLaw" (250 : Nat) mn_Law_guessIn ∈ jk_WA := jk_tb 1058 (by decide +kernel) (by decide +kernel)
theorem tm_1783 : Jvm.Cond.methodLink "KnotReaderLaw" (252 : Nat) mn_Md_guessIn ∈ jk_WA := jk_tb 1783 (by decide +kernel) (by decide +kernel)
theorem tm_1784 : Jvm.Cond.instanceMethod mn_Md_guessIn ∈ jk_WA := jk_tb 1784 (by decide +kernel) (by decide +kernel)
theorem tm_1785 : Jvm.Cond.selects "KnotReaderModel" mn_Md_guessIn mn_Md_guessIn ∈ jk_WA := jk_tb 1785 (by decide +kernel) (by decide +kernel)
theorem tm_1786 : Jvm.Cond.code mn_Md_guessIn prog_13_method_120_code (2 : Nat) (some .int) ∈ jk_WA := jk_tb 1786 (by decide +kernel) (by decide +kernel)
theorem tm_1067 : Jvm.Cond.methodLink "KnotReaderLaw" (253 : Nat) mn_Law_nibbledCord ∈ jk_WA := jk_tb 1067 (by decide +kernel) (by decide +kernel)
theorem tm_1727 : Jvm.Cond.methodLink "KnotReaderLaw" (255 : Nat) mn_Md_nibbledCord ∈ jk_WA := jk_tb 1727 (by decide +kernel) (by decide +kernel)
theorem tm_1728 : Jvm.Cond.instanceMethod mn_Md_nibbledCord ∈ jk_WA := jk_tb 1728 (by decide +kernel) (by decide +kernel)
theorem tm_1729 : Jvm.Cond.selects "KnotReaderModel" mn_Md_nibbledCord mn_Md_nibbledCord ∈ jk_WA := jk_tb 1729 (by decide +kernel) (by decide +kernel)
theorem tm_1730 : Jvm.Cond.code mn_Md_nibbledCord prog_13_method_110_code (2 : Nat) (some .int) ∈ jk_WA := jk_tb 1730 (by decide +kernel) (by decide +kernel)
theorem tm_1075 : Jvm.Cond.methodLink "KnotReaderLaw" (256 : Nat) mn_Law_cordsOfTopic ∈ jk_WA := jk_tb 1075 (by decide +kernel) (by decide +kernel)
theorem tm_1787 : Jvm.Cond.methodLink "KnotReaderLaw" (258 : Nat) mn_Md_cordsOfTopic ∈ jk_WA := jk_tb 1787 (by decide +kernel) (by decide +kernel)
theorem tm_1788 : Jvm.Cond.instanceMethod mn_Md_cordsOfTopic ∈ jk_WA := jk_tb 1788 (by decide +kernel) (by decide +kernel)
theorem tm_1789 : Jvm.Cond.selects "KnotReaderModel" mn_Md_cordsOfTopic mn_Md_cordsOfTopic ∈ jk_WA := jk_tb 1789 (by decide +kernel) (by decide +kernel)
theorem tm_1790 : Jvm.Cond.code mn_Md_cordsOfTopic prog_13_method_122_code (2 : Nat) (some .int) ∈ jk_WA := jk_tb 1790 (by decide +kernel) (by decide +kernel)
theorem tm_1082 : Jvm.Cond.methodLink "KnotReaderLaw" (259 : Nat) mn_Law_sumOfTopic ∈ jk_WA := jk_tb 1082 (by decide +kernel) (by decide +kernel)
theorem tm_1795 : Jvm.Cond.methodLink "KnotReaderLaw" (261 : Nat) mn_Md_sumOfTopic ∈ jk_WA := jk_tb 1795 (by decide +kernel) (by decide +kernel)
theorem tm_1796 : Jvm.Cond.instanceMethod mn_Md_sumOfTopic ∈ jk_WA := jk_tb 1796 (by decide +kernel) (by decide +kernel)
theorem tm_1797 : Jvm.Cond.selects "KnotReaderModel" mn_Md_sumOfTopic mn_Md_sumOfTopic ∈ jk_WA := jk_tb 1797 (by decide +kernel) (by decide +kernel)
theorem tm_1798 : Jvm.Cond.code mn_Md_sumOfTopic prog_13_method_123_code (4 : Nat) (some .int) ∈ jk_WA := jk_tb 1798 (by decide +kernel) (by decide +kernel)
theorem tm_713 : Jvm.Cond.methodLink "KnotReaderLaw" (262 : Nat) mn_KR_mostUsedTopic ∈ jk_WA := jk_tb 713 (by decide +kernel) (by decide +kernel)
theorem tm_714 : Jvm.Cond.instanceMethod mn_KR_mostUsedTopic ∈ jk_WA := jk_tb 714 (by decide +kernel) (by decide +kernel)
theorem tm_715 : Jvm.Cond.selects "KnotReader" mn_KR_mostUsedTopic mn_KR_mostUsedTopic ∈ jk_WA := jk_tb 715 (by decide +kernel) (by decide +kernel)
theorem tm_716 : Jvm.Cond.code mn_KR_mostUsedTopic prog_1_method_39_code (3 : Nat) (some .int) ∈ jk_WA := jk_tb 716 (by decide +kernel) (by decide +kernel)
theorem tm_1799 : Jvm.Cond.methodLink "KnotReaderLaw" (265 : Nat) mn_Md_mostUsedTopic ∈ jk_WA := jk_tb 1799 (by decide +kernel) (by decide +kernel)
theorem tm_1800 : Jvm.Cond.instanceMethod mn_Md_mostUsedTopic ∈ jk_WA := jk_tb 1800 (by decide +kernel) (by decide +kernel)
theorem tm_1801 : Jvm.Cond.selects "KnotReaderModel" mn_Md_mostUsedTopic mn_Md_mostUsedTopic ∈ jk_WA := jk_tb 1801 (by decide +kernel) (by decide +kernel)
theorem tm_1802 : Jvm.Cond.code mn_Md_mostUsedTopic prog_13_method_124_code (3 : Nat) (some .int) ∈ jk_WA := jk_tb 1802 (by decide +kernel) (by decide +kernel)
theorem tm_721 : Jvm.Cond.methodLink "KnotReaderLaw" (266 : Nat) mn_KR_greatestCord ∈ jk_WA := jk_tb 721 (by decide +kernel) (by decide +kernel)
theorem tm_722 : Jvm.Cond.instanceMethod mn_KR_greatestCord ∈ jk_WA := jk_tb 722 (by decide +kernel) (by decide +kernel)
theorem tm_723 : Jvm.Cond.selects "KnotReader" mn_KR_greatestCord mn_KR_greatestCord ∈ jk_WA := jk_tb 723 (by decide +kernel) (by decide +kernel)
theorem tm_724 : Jvm.Cond.code mn_KR_greatestCord prog_1_method_40_code (3 : Nat) (some .int) ∈ jk_WA := jk_tb 724 (by decide +kernel) (by decide +kernel)
theorem tm_1803 : Jvm.Cond.methodLink "KnotReaderLaw" (269 : Nat) mn_Md_greatestCord ∈ jk_WA := jk_tb 1803 (by decide +kernel) (by decide +kernel)
theorem tm_1804 : Jvm.Cond.instanceMethod mn_Md_greatestCord ∈ jk_WA := jk_tb 1804 (by decide +kernel) (by decide +kernel)
theorem tm_1805 : Jvm.Cond.selects "KnotReaderModel" mn_Md_greatestCord mn_Md_greatestCord ∈ jk_WA := jk_tb 1805 (by decide +kernel) (by decide +kernel)
theorem tm_1806 : Jvm.Cond.code mn_Md_greatestCord prog_13_method_125_code (3 : Nat) (some .int) ∈ jk_WA := jk_tb 1806 (by decide +kernel) (by decide +kernel)
theorem tm_734 : Jvm.Cond.methodLink "KnotReaderLaw" (280 : Nat) mn_KR_isConsistent ∈ jk_WA := jk_tb 734 (by decide +kernel) (by decide +kernel)
theorem tm_735 : Jvm.Cond.instanceMethod mn_KR_isConsistent ∈ jk_WA := jk_tb 735 (by decide +kernel) (by decide +kernel)
theorem tm_736 : Jvm.Cond.selects "KnotReader" mn_KR_isConsistent mn_KR_isConsistent ∈ jk_WA := jk_tb 736 (by decide +kernel) (by decide +kernel)
theorem tm_737 : Jvm.Cond.code mn_KR_isConsistent prog_1_method_43_code (1 : Nat) (some .boolean) ∈ jk_WA := jk_tb 737 (by decide +kernel) (by decide +kernel)
theorem tm_1815 : Jvm.Cond.methodLink "KnotReaderLaw" (284 : Nat) mn_Md_isConsistent ∈ jk_WA := jk_tb 1815 (by decide +kernel) (by decide +kernel)
theorem tm_1816 : Jvm.Cond.instanceMethod mn_Md_isConsistent ∈ jk_WA := jk_tb 1816 (by decide +kernel) (by decide +kernel)
theorem tm_1817 : Jvm.Cond.selects "KnotReaderModel" mn_Md_isConsistent mn_Md_isConsistent ∈ jk_WA := jk_tb 1817 (by decide +kernel) (by decide +kernel)
theorem tm_1818 : Jvm.Cond.code mn_Md_isConsistent prog_13_method_131_code (3 : Nat) (some .boolean) ∈ jk_WA := jk_tb 1818 (by decide +kernel) (by decide +kernel)
theorem tm_1089 : Jvm.Cond.methodLink "KnotReaderLaw" (285 : Nat) mn_Law_addCluster ∈ jk_WA := jk_tb 1089 (by decide +kernel) (by decide +kernel)
theorem tm_1831 : Jvm.Cond.methodLink "KnotReaderLaw" (288 : Nat) mn_Md_addCluster ∈ jk_WA := jk_tb 1831 (by decide +kernel) (by decide +kernel)
theorem tm_1832 : Jvm.Cond.instanceMethod mn_Md_addCluster ∈ jk_WA := jk_tb 1832 (by decide +kernel) (by decide +kernel)
theorem tm_1833 : Jvm.Cond.selects "KnotReaderModel" mn_Md_addCluster mn_Md_addCluster ∈ jk_WA := jk_tb 1833 (by decide +kernel) (by decide +kernel)
theorem tm_1834 : Jvm.Cond.code mn_Md_addCluster prog_13_method_132_code (1 : Nat) (some .int) ∈ jk_WA := jk_tb 1834 (by decide +kernel) (by decide +kernel)
theorem tm_1119 : Jvm.Cond.methodLink "KnotReaderLaw" (289 : Nat) mn_Law_addPendant ∈ jk_WA := jk_tb 1119 (by decide +kernel) (by decide +kernel)
theorem tm_1835 : Jvm.Cond.methodLink "KnotReaderLaw" (292 : Nat) mn_Md_addPendant ∈ jk_WA := jk_tb 1835 (by decide +kernel) (by decide +kernel)
theorem tm_1836 : Jvm.Cond.instanceMethod mn_Md_addPendant ∈ jk_WA := jk_tb 1836 (by decide +kernel) (by decide +kernel)
theorem tm_1837 : Jvm.Cond.selects "KnotReaderModel" mn_Md_addPendant mn_Md_addPendant ∈ jk_WA := jk_tb 1837 (by decide +kernel) (by decide +kernel)
theorem tm_1838 : Jvm.Cond.code mn_Md_addPendant prog_13_method_134_code (4 : Nat) (some .int) ∈ jk_WA := jk_tb 1838 (by decide +kernel) (by decide +kernel)
theorem tm_1126 : Jvm.Cond.methodLink "KnotReaderLaw" (293 : Nat) mn_Law_addSubsidiary ∈ jk_WA := jk_tb 1126 (by decide +kernel) (by decide +kernel)
theorem tm_1843 : Jvm.Cond.methodLink "KnotReaderLaw" (295 : Nat) mn_Md_addSubsidiary ∈ jk_WA := jk_tb 1843 (by decide +kernel) (by decide +kernel)
theorem tm_1844 : Jvm.Cond.instanceMethod mn_Md_addSubsidiary ∈ jk_WA := jk_tb 1844 (by decide +kernel) (by decide +kernel)
theorem tm_1845 : Jvm.Cond.selects "KnotReaderModel" mn_Md_addSubsidiary mn_Md_addSubsidiary ∈ jk_WA := jk_tb 1845 (by decide +kernel) (by decide +kernel)
theorem tm_1846 : Jvm.Cond.code mn_Md_addSubsidiary prog_13_method_135_code (4 : Nat) (some .int) ∈ jk_WA := jk_tb 1846 (by decide +kernel) (by decide +kernel)
theorem tm_1133 : Jvm.Cond.methodLink "KnotReaderLaw" (296 : Nat) mn_Law_cut ∈ jk_WA := jk_tb 1133 (by decide +kernel) (by decide +kernel)
theorem tm_1847 : Jvm.Cond.methodLink "KnotReaderLaw" (298 : Nat) mn_Md_cut ∈ jk_WA := jk_tb 1847 (by decide +kernel) (by decide +kernel)
theorem tm_1848 : Jvm.Cond.instanceMethod mn_Md_cut ∈ jk_WA := jk_tb 1848 (by decide +kernel) (by decide +kernel)
theorem tm_1849 : Jvm.Cond.selects "KnotReaderModel" mn_Md_cut mn_Md_cut ∈ jk_WA := jk_tb 1849 (by decide +kernel) (by decide +kernel)
theorem tm_1850 : Jvm.Cond.code mn_Md_cut prog_13_method_136_code (2 : Nat) (some .int) ∈ jk_WA := jk_tb 1850 (by decide +kernel) (by decide +kernel)
theorem tm_1140 : Jvm.Cond.methodLink "KnotReaderLaw" (299 : Nat) mn_Law_tieTop ∈ jk_WA := jk_tb 1140 (by decide +kernel) (by decide +kernel)
theorem tm_1851 : Jvm.Cond.methodLink "KnotReaderLaw" (301 : Nat) mn_Md_tieTop ∈ jk_WA := jk_tb 1851 (by decide +kernel) (by decide +kernel)
theorem tm_1852 : Jvm.Cond.instanceMethod mn_Md_tieTop ∈ jk_WA := jk_tb 1852 (by decide +kernel) (by decide +kernel)
theorem tm_1853 : Jvm.Cond.selects "KnotReaderModel" mn_Md_tieTop mn_Md_tieTop ∈ jk_WA := jk_tb 1853 (by decide +kernel) (by decide +kernel)
theorem tm_1854 : Jvm.Cond.code mn_Md_tieTop prog_13_method_137_code (3 : Nat) (some .int) ∈ jk_WA := jk_tb 1854 (by decide +kernel) (by decide +kernel)
theorem tm_1147 : Jvm.Cond.methodLink "KnotReaderLaw" (302 : Nat) mn_Law_setKnots ∈ jk_WA := jk_tb 1147 (by decide +kernel) (by decide +kernel)
theorem tm_1855 : Jvm.Cond.methodLink "KnotReaderLaw" (304 : Nat) mn_Md_setKnots ∈ jk_WA := jk_tb 1855 (by decide +kernel) (by decide +kernel)
theorem tm_1856 : Jvm.Cond.instanceMethod mn_Md_setKnots ∈ jk_WA := jk_tb 1856 (by decide +kernel) (by decide +kernel)
theorem tm_1857 : Jvm.Cond.selects "KnotReaderModel" mn_Md_setKnots mn_Md_setKnots ∈ jk_WA := jk_tb 1857 (by decide +kernel) (by decide +kernel)
theorem tm_1858 : Jvm.Cond.code mn_Md_setKnots prog_13_method_138_code (4 : Nat) (some .int) ∈ jk_WA := jk_tb 1858 (by decide +kernel) (by decide +kernel)
theorem tm_1154 : Jvm.Cond.methodLink "KnotReaderLaw" (305 : Nat) mn_Law_nibble ∈ jk_WA := jk_tb 1154 (by decide +kernel) (by decide +kernel)
theorem tm_1859 : Jvm.Cond.methodLink "KnotReaderLaw" (307 : Nat) mn_Md_nibble ∈ jk_WA := jk_tb 1859 (by decide +kernel) (by decide +kernel)
theorem tm_1860 : Jvm.Cond.instanceMethod mn_Md_nibble ∈ jk_WA := jk_tb 1860 (by decide +kernel) (by decide +kernel)
theorem tm_1861 : Jvm.Cond.selects "KnotReaderModel" mn_Md_nibble mn_Md_nibble ∈ jk_WA := jk_tb 1861 (by decide +kernel) (by decide +kernel)
theorem tm_1862 : Jvm.Cond.code mn_Md_nibble prog_13_method_139_code (3 : Nat) (some .int) ∈ jk_WA := jk_tb 1862 (by decide +kernel) (by decide +kernel)
theorem tm_1161 : Jvm.Cond.methodLink "KnotReaderLaw" (308 : Nat) mn_Law_dye ∈ jk_WA := jk_tb 1161 (by decide +kernel) (by decide +kernel)
theorem tm_1863 : Jvm.Cond.methodLink "KnotReaderLaw" (310 : Nat) mn_Md_dye ∈ jk_WA := jk_tb 1863 (by decide +kernel) (by decide +kernel)
theorem tm_1864 : Jvm.Cond.instanceMethod mn_Md_dye ∈ jk_WA := jk_tb 1864 (by decide +kernel) (by decide +kernel)
theorem tm_1865 : Jvm.Cond.selects "KnotReaderModel" mn_Md_dye mn_Md_dye ∈ jk_WA := jk_tb 1865 (by decide +kernel) (by decide +kernel)
theorem tm_1866 : Jvm.Cond.code mn_Md_dye prog_13_method_140_code (3 : Nat) (some .int) ∈ jk_WA := jk_tb 1866 (by decide +kernel) (by decide +kernel)
theorem tm_1168 : Jvm.Cond.methodLink "KnotReaderLaw" (311 : Nat) mn_Law_repair ∈ jk_WA := jk_tb 1168 (by decide +kernel) (by decide +kernel)
theorem tm_1867 : Jvm.Cond.methodLink "KnotReaderLaw" (313 : Nat) mn_Md_repair ∈ jk_WA := jk_tb 1867 (by decide +kernel) (by decide +kernel)
theorem tm_1868 : Jvm.Cond.instanceMethod mn_Md_repair ∈ jk_WA := jk_tb 1868 (by decide +kernel) (by decide +kernel)
theorem tm_1869 : Jvm.Cond.selects "KnotReaderModel" mn_Md_repair mn_Md_repair ∈ jk_WA := jk_tb 1869 (by decide +kernel) (by decide +kernel)
theorem tm_1870 : Jvm.Cond.code mn_Md_repair prog_13_method_141_code (2 : Nat) (some .int) ∈ jk_WA := jk_tb 1870 (by decide +kernel) (by decide +kernel)
theorem tm_1175 : Jvm.Cond.methodLink "KnotReaderLaw" (314 : Nat) mn_Law_undo ∈ jk_WA := jk_tb 1175 (by decide +kernel) (by decide +kernel)
theorem tm_1871 : Jvm.Cond.methodLink "KnotReaderLaw" (316 : Nat) mn_Md_undo ∈ jk_WA := jk_tb 1871 (by decide +kernel) (by decide +kernel)
theorem tm_1872 : Jvm.Cond.instanceMethod mn_Md_undo ∈ jk_WA := jk_tb 1872 (by decide +kernel) (by decide +kernel)
theorem tm_1873 : Jvm.Cond.selects "KnotReaderModel" mn_Md_undo mn_Md_undo ∈ jk_WA := jk_tb 1873 (by decide +kernel) (by decide +kernel)
theorem tm_1874 : Jvm.Cond.code mn_Md_undo prog_13_method_142_code (1 : Nat) (some .int) ∈ jk_WA := jk_tb 1874 (by decide +kernel) (by decide +kernel)
theorem tm_1187 : Jvm.Cond.methodLink "KnotReaderLaw" (317 : Nat) mn_Law_writeCluster ∈ jk_WA := jk_tb 1187 (by decide +kernel) (by decide +kernel)
theorem tm_1875 : Jvm.Cond.methodLink "KnotReaderLaw" (319 : Nat) mn_Md_writeCluster ∈ jk_WA := jk_tb 1875 (by decide +kernel) (by decide +kernel)
theorem tm_1876 : Jvm.Cond.instanceMethod mn_Md_writeCluster ∈ jk_WA := jk_tb 1876 (by decide +kernel) (by decide +kernel)
theorem tm_1877 : Jvm.Cond.selects "KnotReaderModel" mn_Md_writeCluster mn_Md_writeCluster ∈ jk_WA := jk_tb 1877 (by decide +kernel) (by decide +kernel)
theorem tm_1878 : Jvm.Cond.code mn_Md_writeCluster prog_13_method_145_code (4 : Nat) (some .int) ∈ jk_WA := jk_tb 1878 (by decide +kernel) (by decide +kernel)
theorem tm_776 : Jvm.Cond.methodLink "KnotReaderLaw" (320 : Nat) mn_KR_outputByte ∈ jk_WA := jk_tb 776 (by decide +kernel) (by decide +kernel)
theorem tm_777 : Jvm.Cond.instanceMethod mn_KR_outputByte ∈ jk_WA := jk_tb 777 (by decide +kernel) (by decide +kernel)
theorem tm_778 : Jvm.Cond.selects "KnotReader" mn_KR_outputByte mn_KR_outputByte ∈ jk_WA := jk_tb 778 (by decide +kernel) (by decide +kernel)
theorem tm_779 : Jvm.Cond.code mn_KR_outputByte prog_1_method_55_code (2 : Nat) (some .int) ∈ jk_WA := jk_tb 779 (by decide +kernel) (by decide +kernel)
theorem tm_1887 : Jvm.Cond.methodLink "KnotReaderLaw" (323 : Nat) mn_Md_outputByte ∈ jk_WA := jk_tb 1887 (by decide +kernel) (by decide +kernel)
theorem tm_1888 : Jvm.Cond.instanceMethod mn_Md_outputByte ∈ jk_WA := jk_tb 1888 (by decide +kernel) (by decide +kernel)
theorem tm_1889 : Jvm.Cond.selects "KnotReaderModel" mn_Md_outputByte mn_Md_outputByte ∈ jk_WA := jk_tb 1889 (by decide +kernel) (by decide +kernel)
theorem tm_1890 : Jvm.Cond.code mn_Md_outputByte prog_13_method_146_code (2 : Nat) (some .int) ∈ jk_WA := jk_tb 1890 (by decide +kernel) (by decide +kernel)
theorem tm_780 : Jvm.Cond.methodLink "KnotReaderLaw" (324 : Nat) mn_KR_saveState ∈ jk_WA := jk_tb 780 (by decide +kernel) (by decide +kernel)
theorem tm_781 : Jvm.Cond.instanceMethod mn_KR_saveState ∈ jk_WA := jk_tb 781 (by decide +kernel) (by decide +kernel)
theorem tm_782 : Jvm.Cond.selects "KnotReader" mn_KR_saveState mn_KR_saveState ∈ jk_WA := jk_tb 782 (by decide +kernel) (by decide +kernel)
theorem tm_783 : Jvm.Cond.code mn_KR_saveState prog_1_method_56_code (1 : Nat) (some .int) ∈ jk_WA := jk_tb 783 (by decide +kernel) (by decide +kernel)
theorem tm_1891 : Jvm.Cond.methodLink "KnotReaderLaw" (327 : Nat) mn_Md_saveState ∈ jk_WA := jk_tb 1891 (by decide +kernel) (by decide +kernel)
theorem tm_1892 : Jvm.Cond.instanceMethod mn_Md_saveState ∈ jk_WA := jk_tb 1892 (by decide +kernel) (by decide +kernel)
theorem tm_1893 : Jvm.Cond.selects "KnotReaderModel" mn_Md_saveState mn_Md_saveState ∈ jk_WA := jk_tb 1893 (by decide +kernel) (by decide +kernel)
theorem tm_1894 : Jvm.Cond.code mn_Md_saveState prog_13_method_147_code (1 : Nat) (some .int) ∈ jk_WA := jk_tb 1894 (by decide +kernel) (by decide +kernel)
theorem tm_1214 : Jvm.Cond.methodLink "KnotReaderLaw" (328 : Nat) mn_Law_restoreState ∈ jk_WA := jk_tb 1214 (by decide +kernel) (by decide +kernel)
theorem tm_1895 : Jvm.Cond.methodLink "KnotReaderLaw" (330 : Nat) mn_Md_restoreState ∈ jk_WA := jk_tb 1895 (by decide +kernel) (by decide +kernel)
theorem tm_1896 : Jvm.Cond.instanceMethod mn_Md_restoreState ∈ jk_WA := jk_tb 1896 (by decide +kernel) (by decide +kernel)
theorem tm_1897 : Jvm.Cond.selects "KnotReaderModel" mn_Md_restoreState mn_Md_restoreState ∈ jk_WA := jk_tb 1897 (by decide +kernel) (by decide +kernel)
theorem tm_1898 : Jvm.Cond.code mn_Md_restoreState prog_13_method_148_code (1 : Nat) (some .int) ∈ jk_WA := jk_tb 1898 (by decide +kernel) (by decide +kernel)
section LR3
variable {p : Program} {l : Launch} {e : Env} {R : Room} {s : State} {m : MethodId} {args : Array Value} {below : List Frame} {meth : Method} {c : Code} {cells slots : Nat} {Q : State → Prop} {D : va_G} {cl : List vw_C} {A : Nat → Prop} {nL : Nat} {ws : va_W} {lv : List (Nat × Value)} {pc : Nat} {st : List Value}
variable {cc : ByteArray} {own : String} {tys : List (ClassId × FieldType)} {ret : Option FieldType}
theorem jk_icmp_same (C : jk_C p s m args meth c cc own nL jk_WA D cl tys A ret) {x : Int} {off : Int} {tgt : Nat} (hdg : decode cc pc = .ok (.if_icmp .eq off, 3)) (ht : (pc : Int) + off = (tgt : Int)) (kt : jk_J p l e R s m args below meth c cells slots Q D cl A nL ws lv tgt st) : jk_J p l e R s m args below meth c cells slots Q D cl A nL ws lv pc (jk_V x :: jk_V x :: st) :=
  fun H locs ls hl hP hD hS => lv_icmp_eq C.1.1 C.1.2.1 hdg ht (fun _ => kt H locs ls hl hP hD hS) (fun h => absurd rfl h)
end LR3
set_option maxRecDepth 20000 in
theorem LW_len {cI cR : ClassId} {g : Nat → Option Nat} {ad am : Nat → Nat} {σ : jk_LS} : (LW cI cR g ad am σ).length = 155 := rfl
set_option maxRecDepth 20000 in
theorem LW_fst {cI cR : ClassId} {g : Nat → Option Nat} {ad am : Nat → Nat} {σ σ' : jk_LS} : (LW cI cR g ad am σ').map (·.1) = (LW cI cR g ad am σ).map (·.1) := rfl
theorem LW_x {cI cR : ClassId} {g : Nat → Option Nat} {ad am : Nat → Nat} {σ : jk_LS} : (LW cI cR g ad am σ)[0]? = some (ad 0, .inr (10, [.ref (ad 1), .ref (ad 4), .ref (ad 7), .ref (ad 10), .ref (ad 21), .ref (ad 24), .ref (ad 35), .ref (ad 46), .ref (ad 136), jk_V (σ.S 0), jk_V (σ.S 1), jk_V (σ.S 2)])) := rfl
theorem LW_m {cI cR : ClassId} {g : Nat → Option Nat} {ad am : Nat → Nat} {σ : jk_LS} : (LW cI cR g ad am σ)[145]? = some (am 0, .inr (11, [.ref (am 1), .ref (am 2), .ref (am 3), .ref (am 4), jk_V (σ.S 21), jk_V (σ.S 22), jk_V (σ.S 23), .ref (am 5), jk_V (σ.S 24), jk_V (σ.S 25), jk_V (σ.S 26), jk_V (σ.S 27), jk_V (σ.S 28), jk_V (σ.S 29), jk_V (σ.S 30), jk_V (σ.S 31), jk_V (σ.S 32), jk_V (σ.S 33), .ref (am 6), .ref (am 7), .ref (am 8), jk_V (σ.S 34), .ref (am 9), jk_V (σ.S 35)])) := rfl
set_option maxRecDepth 20000 in
theorem nd155 : va_nd (List.range 155) = true := by decide +kernel
set_option maxRecDepth 20000 in
theorem nd156 : va_nd (List.range 156) = true := by decide +kernel
theorem lw_pq1 {W : va_W} {x : Nat × va_E} (hN : W.length = 155) : (List.range 156).map (fun i => (W ++ [x])[i]?) = (W ++ [x]).map some := by
  have := lw_pl (W := W ++ [x]) (X := []) (N := 156) (by rw [List.length_append, hN]; rfl)
  rwa [List.append_nil] at this
theorem lw_fs1 {W W' : va_W} {q : Nat} {e e' : va_E} (h : W'.map (·.1) = W.map (·.1)) : (W' ++ [(q, e')]).map (·.1) = (W ++ [(q, e)]).map (·.1) := by
  rw [List.map_append, List.map_append, h]
  rfl
theorem lw_pt1 {W W' : va_W} {x x' : Nat × va_E} (hN : W.length = 155) (hN' : W'.length = 155) : jk_put (W ++ [x]) (List.range 156) (W' ++ [x']) = W' ++ [x'] := by
  have := lw_put (W := W ++ [x]) (W' := W' ++ [x']) (X := []) (N := 156) (by rw [List.length_append, hN]; rfl) (by rw [List.length_append, hN']; rfl)
  rwa [List.append_nil, List.append_nil] at this
set_option maxHeartbeats 4000000 in
set_option maxRecDepth 20000 in
theorem lc_0 {p : Program} {l : Launch} {e : Env} {s : State} {m : MethodId} {args : Array Value} {below : List Frame} {meth : Method} {c : Code} {cells slots : Nat} {Q : State → Prop} {D : va_G} {A : Nat → Prop} {ret : Option FieldType} {Z : (Nat → Prop) → State → Heap → Prop} {sq : Nat → Nat} {cI cR cL : ClassId} {g : Nat → Option Nat} {ad am : Nat → Nat} {b o L : Nat} {xs : Nat → Int32} {i : Int} (C : jk_C p s m args meth c mb_Law_law "KnotReaderLaw" 9 jk_WA D jk_cl (jk_t3 cI cR cL) A ret) (hZ : jk_ZK Z sq) (hz : Z A s s.heap) (hcs : cells + 20 ≤ room_1.cells ∧ slots + 120 ≤ room_1.slots) (hX : va_X b L xs s s.heap) (hbl : b < s.heap.size) (hbA : ¬ A b) (hL : L ≤ 3072) (hi : 0 ≤ i ∧ i + 6 ≤ (L : Int)) {σ σ1 σ2 : jk_LS} {f : Nat → Int64} {r : Int} (hA : jk_MI l D jk_cl (jk_ty cI cR) Z mn_KR_appendInput (.code mn_KR_appendInput mb_KR_appendInput 6 (some .int) :: jk_WA) (jk_rm 3 65) [.ref (ad 0), jk_V (xs (i + 1).toNat).toInt, jk_V (xs (i + 2).toNat).toInt, jk_V (xs (i + 3).toNat).toInt, jk_V (xs (i + 4).toNat).toInt, jk_V (xs (i + 5).toNat).toInt] (LW cI cR g ad am σ) (LW cI cR g ad am σ1) r) (hB : jk_MI l D jk_cl (jk_ty cI cR) Z mn_Md_appendInput (.code mn_Md_appendInput mb_Md_appendInput 6 (some .int) :: jk_WA) (jk_rm 1 22) [.ref (am 0), jk_V (xs (i + 1).toNat).toInt, jk_V (xs (i + 2).toNat).toInt, jk_V (xs (i + 3).toNat).toInt, jk_V (xs (i + 4).toNat).toInt, jk_V (xs (i + 5).toNat).toInt] (LW cI cR g ad am σ1) (LW cI cR g ad am σ2) r) (kk : jk_J p l e room_1 s m args below meth c (cells + 20) (slots + 120) Q D jk_cl A 9 (LW cI cR g ad am σ2 ++ [(o, .inl (cL, 1, .inr (.inl f)))]) [(0, .ref b), (1, .ref (ad 0)), (2, .ref (am 0)), (3, .ref o), (4, jk_V i)] 2784 []) : jk_J p l e room_1 s m args below meth c (cells) (slots) Q D jk_cl A 9 (LW cI cR g ad am σ ++ [(o, .inl (cL, 1, .inr (.inl f)))]) [(0, .ref b), (1, .ref (ad 0)), (2, .ref (am 0)), (3, .ref o), (4, jk_V i)] 276 [] := by
  have C2 := jk_Csub C [0, 1] rfl (tys' := jk_ty cI cR)
  refine jk_aload_n C rd_Law_law_276 (k := 1) rfl ?_
  refine jk_aload_n C rd_Law_law_277 (k := 0) rfl ?_
  refine jk_iload C rd_Law_law_278 (k := 4) rfl ?_
  refine jk_iconst C rd_Law_law_280 ?_
  refine jk_iadd C rd_Law_law_281 ?_
  refine jk_sld C hX hbl hbA (by omega) (by omega) hL rd_Law_law_282 ?_
  refine jk_aload_n C rd_Law_law_283 (k := 0) rfl ?_
  refine jk_iload C rd_Law_law_284 (k := 4) rfl ?_
  refine jk_iconst C rd_Law_law_286 ?_
  refine jk_iadd C rd_Law_law_287 ?_
  refine jk_sld C hX hbl hbA (by omega) (by omega) hL rd_Law_law_288 ?_
  refine jk_aload_n C rd_Law_law_289 (k := 0) rfl ?_
  refine jk_iload C rd_Law_law_290 (k := 4) rfl ?_
  refine jk_iconst C rd_Law_law_292 ?_
  refine jk_iadd C rd_Law_law_293 ?_
  refine jk_sld C hX hbl hbA (by omega) (by omega) hL rd_Law_law_294 ?_
  refine jk_aload_n C rd_Law_law_295 (k := 0) rfl ?_
  refine jk_iload C rd_Law_law_296 (k := 4) rfl ?_
  refine jk_iconst C rd_Law_law_298 ?_
  refine jk_iadd C rd_Law_law_299 ?_
  refine jk_sld C hX hbl hbA (by omega) (by omega) hL rd_Law_law_300 ?_
  refine jk_aload_n C rd_Law_law_301 (k := 0) rfl ?_
  refine jk_iload C rd_Law_law_302 (k := 4) rfl ?_
  refine jk_iconst C rd_Law_law_304 ?_
  refine jk_iadd C rd_Law_law_305 ?_
  refine jk_sld C hX hbl hbA (by omega) (by omega) hL rd_Law_law_306 ?_
  refine jk_callVi C2 hZ.1 hz hA tm_462 tm_463 tm_464 tm_1 tm_465 na_KR_appendInput ⟨Nat.le_of_ble_eq_true rfl, Nat.le_of_ble_eq_true rfl⟩ rfl (List.range 155) (lw_pl LW_len) nd155 LW_fst (lw_put LW_len LW_len) 0 10 (lw_hd LW_len LW_x _) rfl rfl (st := []) rfl (Nat.le_of_ble_eq_true rfl) rd_Law_law_307 ?_ ⟨by omega, by omega⟩
  refine jk_aload_n C rd_Law_law_310 (k := 2) rfl ?_
  refine jk_aload_n C rd_Law_law_311 (k := 0) rfl ?_
  refine jk_iload C rd_Law_law_312 (k := 4) rfl ?_
  refine jk_iconst C rd_Law_law_314 ?_
  refine jk_iadd C rd_Law_law_315 ?_
  refine jk_sld C hX hbl hbA (by omega) (by omega) hL rd_Law_law_316 ?_
  refine jk_aload_n C rd_Law_law_317 (k := 0) rfl ?_
  refine jk_iload C rd_Law_law_318 (k := 4) rfl ?_
  refine jk_iconst C rd_Law_law_320 ?_
  refine jk_iadd C rd_Law_law_321 ?_
  refine jk_sld C hX hbl hbA (by omega) (by omega) hL rd_Law_law_322 ?_
  refine jk_aload_n C rd_Law_law_323 (k := 0) rfl ?_
  refine jk_iload C rd_Law_law_324 (k := 4) rfl ?_
  refine jk_iconst C rd_Law_law_326 ?_
  refine jk_iadd C rd_Law_law_327 ?_
  refine jk_sld C hX hbl hbA (by omega) (by omega) hL rd_Law_law_328 ?_
  refine jk_aload_n C rd_Law_law_329 (k := 0) rfl ?_
  refine jk_iload C rd_Law_law_330 (k := 4) rfl ?_
  refine jk_iconst C rd_Law_law_332 ?_
  refine jk_iadd C rd_Law_law_333 ?_
  refine jk_sld C hX hbl hbA (by omega) (by omega) hL rd_Law_law_334 ?_
  refine jk_aload_n C rd_Law_law_335 (k := 0) rfl ?_
  refine jk_iload C rd_Law_law_336 (k := 4) rfl ?_
  refine jk_iconst C rd_Law_law_338 ?_
  refine jk_iadd C rd_Law_law_339 ?_
  refine jk_sld C hX hbl hbA (by omega) (by omega) hL rd_Law_law_340 ?_
  refine jk_callVi C2 hZ.1 hz hB tm_1340 tm_1341 tm_1342 tm_15 tm_1343 na_Md_appendInput ⟨Nat.le_of_ble_eq_true rfl, Nat.le_of_ble_eq_true rfl⟩ rfl (List.range 155) (lw_pl LW_len) nd155 LW_fst (lw_put LW_len LW_len) 145 11 (lw_hd LW_len LW_m _) rfl rfl (st := [jk_V r]) rfl (Nat.le_of_ble_eq_true rfl) rd_Law_law_341 ?_ ⟨by omega, by omega⟩
  refine jk_icmp_same (tgt := 2784) C rd_Law_law_344 (by decide) ?_
  exact jk_widen (by omega) (by omega) kk

set_option maxHeartbeats 4000000 in
set_option maxRecDepth 20000 in
theorem lc_1 {p : Program} {l : Launch} {e : Env} {s : State} {m : MethodId} {args : Array Value} {below : List Frame} {meth : Method} {c : Code} {cells slots : Nat} {Q : State → Prop} {D : va_G} {A : Nat → Prop} {ret : Option FieldType} {Z : (Nat → Prop) → State → Heap → Prop} {sq : Nat → Nat} {cI cR cL : ClassId} {g : Nat → Option Nat} {ad am : Nat → Nat} {b o L : Nat} {xs : Nat → Int32} {i : Int} (C : jk_C p s m args meth c mb_Law_law "KnotReaderLaw" 9 jk_WA D jk_cl (jk_t3 cI cR cL) A ret) (hZ : jk_ZK Z sq) (hz : Z A s s.heap) (hcs : cells + 20 ≤ room_1.cells ∧ slots + 120 ≤ room_1.slots) (hX : va_X b L xs s s.heap) (hbl : b < s.heap.size) (hbA : ¬ A b) (hL : L ≤ 3072) (hi : 0 ≤ i ∧ i + 6 ≤ (L : Int)) {σ σ1 σ2 : jk_LS} {f : Nat → Int64} {r : Int} (hA : jk_MI l D jk_cl (jk_ty cI cR) Z mn_KR_truncateInput (.code mn_KR_truncateInput mb_KR_truncateInput 2 (some .boolean) :: jk_WA) (jk_rm 0 0) [.ref (ad 0), jk_V (xs (i + 1).toNat).toInt] (LW cI cR g ad am σ) (LW cI cR g ad am σ1) r) (hB : jk_MI l D jk_cl (jk_ty cI cR) Z mn_Md_truncateInput (.code mn_Md_truncateInput mb_Md_truncateInput 2 (some .boolean) :: jk_WA) (jk_rm 1 22) [.ref (am 0), jk_V (xs (i + 1).toNat).toInt] (LW cI cR g ad am σ1) (LW cI cR g ad am σ2) r) (kk : jk_J p l e room_1 s m args below meth c (cells + 20) (slots + 120) Q D jk_cl A 9 (LW cI cR g ad am σ2 ++ [(o, .inl (cL, 1, .inr (.inl f)))]) [(0, .ref b), (1, .ref (ad 0)), (2, .ref (am 0)), (3, .ref o), (4, jk_V i)] 2784 []) : jk_J p l e room_1 s m args below meth c (cells) (slots) Q D jk_cl A 9 (LW cI cR g ad am σ ++ [(o, .inl (cL, 1, .inr (.inl f)))]) [(0, .ref b), (1, .ref (ad 0)), (2, .ref (am 0)), (3, .ref o), (4, jk_V i)] 349 [] := by
  have C2 := jk_Csub C [0, 1] rfl (tys' := jk_ty cI cR)
  refine jk_aload_n C rd_Law_law_349 (k := 1) rfl ?_
  refine jk_aload_n C rd_Law_law_350 (k := 0) rfl ?_
  refine jk_iload C rd_Law_law_351 (k := 4) rfl ?_
  refine jk_iconst C rd_Law_law_353 ?_
  refine jk_iadd C rd_Law_law_354 ?_
  refine jk_sld C hX hbl hbA (by omega) (by omega) hL rd_Law_law_355 ?_
  refine jk_callVi C2 hZ.1 hz hA tm_470 tm_471 tm_472 tm_1 tm_473 na_KR_truncateInput ⟨Nat.le_of_ble_eq_true rfl, Nat.le_of_ble_eq_true rfl⟩ rfl (List.range 155) (lw_pl LW_len) nd155 LW_fst (lw_put LW_len LW_len) 0 10 (lw_hd LW_len LW_x _) rfl rfl (st := []) rfl (Nat.le_of_ble_eq_true rfl) rd_Law_law_356 ?_ ⟨by omega, by omega⟩
  refine jk_aload_n C rd_Law_law_359 (k := 2) rfl ?_
  refine jk_aload_n C rd_Law_law_360 (k := 0) rfl ?_
  refine jk_iload C rd_Law_law_361 (k := 4) rfl ?_
  refine jk_iconst C rd_Law_law_363 ?_
  refine jk_iadd C rd_Law_law_364 ?_
  refine jk_sld C hX hbl hbA (by omega) (by omega) hL rd_Law_law_365 ?_
  refine jk_callVi C2 hZ.1 hz hB tm_1348 tm_1349 tm_1350 tm_15 tm_1351 na_Md_truncateInput ⟨Nat.le_of_ble_eq_true rfl, Nat.le_of_ble_eq_true rfl⟩ rfl (List.range 155) (lw_pl LW_len) nd155 LW_fst (lw_put LW_len LW_len) 145 11 (lw_hd LW_len LW_m _) rfl rfl (st := [jk_V r]) rfl (Nat.le_of_ble_eq_true rfl) rd_Law_law_366 ?_ ⟨by omega, by omega⟩
  refine jk_icmp_same (tgt := 2784) C rd_Law_law_369 (by decide) ?_
  exact jk_widen (by omega) (by omega) kk

set_option maxHeartbeats 4000000 in
set_option maxRecDepth 20000 in
theorem lc_2 {p : Program} {l : Launch} {e : Env} {s : State} {m : MethodId} {args : Array Value} {below : List Frame} {meth : Method} {c : Code} {cells slots : Nat} {Q : State → Prop} {D : va_G} {A : Nat → Prop} {ret : Option FieldType} {Z : (Nat → Prop) → State → Heap → Prop} {sq : Nat → Nat} {cI cR cL : ClassId} {g : Nat → Option Nat} {ad am : Nat → Nat} {b o L : Nat} {xs : Nat → Int32} {i : Int} (C : jk_C p s m args meth c mb_Law_law "KnotReaderLaw" 9 jk_WA D jk_cl (jk_t3 cI cR cL) A ret) (hZ : jk_ZK Z sq) (hz : Z A s s.heap) (hcs : cells + 20 ≤ room_1.cells ∧ slots + 120 ≤ room_1.slots) (hX : va_X b L xs s s.heap) (hbl : b < s.heap.size) (hbA : ¬ A b) (hL : L ≤ 3072) (hi : 0 ≤ i ∧ i + 6 ≤ (L : Int)) {σ σ1 σ2 : jk_LS} {f : Nat → Int64} {r : Int} (hA : jk_MI l D jk_cl (jk_ty cI cR) Z mn_KR_loadCords (.code mn_KR_loadCords mb_KR_loadCords 1 (some .int) :: jk_WA) (jk_rm 10 394) [.ref (ad 0)] (LW cI cR g ad am σ) (LW cI cR g ad am σ1) r) (hB : jk_MI l D jk_cl (jk_ty cI cR) Z mn_Md_loadCords (.code mn_Md_loadCords mb_Md_loadCords 2 (some .int) :: jk_WA) (jk_rm 12 429) [.ref (am 0)] (LW cI cR g ad am σ1) (LW cI cR g ad am σ2) r) (kk : jk_J p l e room_1 s m args below meth c (cells + 20) (slots + 120) Q D jk_cl A 9 (LW cI cR g ad am σ2 ++ [(o, .inl (cL, 1, .inr (.inl f)))]) [(0, .ref b), (1, .ref (ad 0)), (2, .ref (am 0)), (3, .ref o), (4, jk_V i)] 2784 []) : jk_J p l e room_1 s m args below meth c (cells) (slots) Q D jk_cl A 9 (LW cI cR g ad am σ ++ [(o, .inl (cL, 1, .inr (.inl f)))]) [(0, .ref b), (1, .ref (ad 0)), (2, .ref (am 0)), (3, .ref o), (4, jk_V i)] 374 [] := by
  have C2 := jk_Csub C [0, 1] rfl (tys' := jk_ty cI cR)
  refine jk_aload_n C rd_Law_law_374 (k := 1) rfl ?_
  refine jk_callVi C2 hZ.1 hz hA tm_474 tm_475 tm_476 tm_1 tm_477 na_KR_loadCords ⟨Nat.le_of_ble_eq_true rfl, Nat.le_of_ble_eq_true rfl⟩ rfl (List.range 155) (lw_pl LW_len) nd155 LW_fst (lw_put LW_len LW_len) 0 10 (lw_hd LW_len LW_x _) rfl rfl (st := []) rfl (Nat.le_of_ble_eq_true rfl) rd_Law_law_375 ?_ ⟨by omega, by omega⟩
  refine jk_aload_n C rd_Law_law_378 (k := 2) rfl ?_
  refine jk_callVi C2 hZ.1 hz hB tm_1355 tm_1356 tm_1357 tm_15 tm_1358 na_Md_loadCords ⟨Nat.le_of_ble_eq_true rfl, Nat.le_of_ble_eq_true rfl⟩ rfl (List.range 155) (lw_pl LW_len) nd155 LW_fst (lw_put LW_len LW_len) 145 11 (lw_hd LW_len LW_m _) rfl rfl (st := [jk_V r]) rfl (Nat.le_of_ble_eq_true rfl) rd_Law_law_379 ?_ ⟨by omega, by omega⟩
  refine jk_icmp_same (tgt := 2784) C rd_Law_law_382 (by decide) ?_
  exact jk_widen (by omega) (by omega) kk

set_option maxHeartbeats 4000000 in
set_option maxRecDepth 20000 in
theorem lc_3 {p : Program} {l : Launch} {e : Env} {s : State} {m : MethodId} {args : Array Value} {below : List Frame} {meth : Method} {c : Code} {cells slots : Nat} {Q : State → Prop} {D : va_G} {A : Nat → Prop} {ret : Option FieldType} {Z : (Nat → Prop) → State → Heap → Prop} {sq : Nat → Nat} {cI cR cL : ClassId} {g : Nat → Option Nat} {ad am : Nat → Nat} {b o L : Nat} {xs : Nat → Int32} {i : Int} (C : jk_C p s m args meth c mb_Law_law "KnotReaderLaw" 9 jk_WA D jk_cl (jk_t3 cI cR cL) A ret) (hZ : jk_ZK Z sq) (hz : Z A s s.heap) (hcs : cells + 20 ≤ room_1.cells ∧ slots + 120 ≤ room_1.slots) (hX : va_X b L xs s s.heap) (hbl : b < s.heap.size) (hbA : ¬ A b) (hL : L ≤ 3072) (hi : 0 ≤ i ∧ i + 6 ≤ (L : Int)) {σ σ1 σ2 : jk_LS} {f : Nat → Int64} {r : Int} (hA : jk_MI l D jk_cl (jk_ty cI cR) Z mn_KR_runScript (.code mn_KR_runScript mb_KR_runScript 6 (some .int) :: jk_WA) (jk_rm 10 388) [.ref (ad 0)] (LW cI cR g ad am σ) (LW cI cR g ad am σ1) r) (hB : jk_MI l D jk_cl (jk_ty cI cR) Z mn_Md_runScript (.code mn_Md_runScript mb_Md_runScript 3 (some .int) :: jk_WA) (jk_rm 10 364) [.ref (am 0)] (LW cI cR g ad am σ1) (LW cI cR g ad am σ2) r) (kk : jk_J p l e room_1 s m args below meth c (cells + 20) (slots + 120) Q D jk_cl A 9 (LW cI cR g ad am σ2 ++ [(o, .inl (cL, 1, .inr (.inl f)))]) [(0, .ref b), (1, .ref (ad 0)), (2, .ref (am 0)), (3, .ref o), (4, jk_V i)] 2784 []) : jk_J p l e room_1 s m args below meth c (cells) (slots) Q D jk_cl A 9 (LW cI cR g ad am σ ++ [(o, .inl (cL, 1, .inr (.inl f)))]) [(0, .ref b), (1, .ref (ad 0)), (2, .ref (am 0)), (3, .ref o), (4, jk_V i)] 387 [] := by
  have C2 := jk_Csub C [0, 1] rfl (tys' := jk_ty cI cR)
  refine jk_aload_n C rd_Law_law_387 (k := 1) rfl ?_
  refine jk_callVi C2 hZ.1 hz hA tm_499 tm_500 tm_501 tm_1 tm_502 na_KR_runScript ⟨Nat.le_of_ble_eq_true rfl, Nat.le_of_ble_eq_true rfl⟩ rfl (List.range 155) (lw_pl LW_len) nd155 LW_fst (lw_put LW_len LW_len) 0 10 (lw_hd LW_len LW_x _) rfl rfl (st := []) rfl (Nat.le_of_ble_eq_true rfl) rd_Law_law_388 ?_ ⟨by omega, by omega⟩
  refine jk_aload_n C rd_Law_law_391 (k := 2) rfl ?_
  refine jk_callVi C2 hZ.1 hz hB tm_1482 tm_1483 tm_1484 tm_15 tm_1485 na_Md_runScript ⟨Nat.le_of_ble_eq_true rfl, Nat.le_of_ble_eq_true rfl⟩ rfl (List.range 155) (lw_pl LW_len) nd155 LW_fst (lw_put LW_len LW_len) 145 11 (lw_hd LW_len LW_m _) rfl rfl (st := [jk_V r]) rfl (Nat.le_of_ble_eq_true rfl) rd_Law_law_392 ?_ ⟨by omega, by omega⟩
  refine jk_icmp_same (tgt := 2784) C rd_Law_law_395 (by decide) ?_
  exact jk_widen (by omega) (by omega) kk

set_option maxHeartbeats 4000000 in
set_option maxRecDepth 20000 in
theorem lc_4 {p : Program} {l : Launch} {e : Env} {s : State} {m : MethodId} {args : Array Value} {below : List Frame} {meth : Method} {c : Code} {cells slots : Nat} {Q : State → Prop} {D : va_G} {A : Nat → Prop} {ret : Option FieldType} {Z : (Nat → Prop) → State → Heap → Prop} {sq : Nat → Nat} {cI cR cL : ClassId} {g : Nat → Option Nat} {ad am : Nat → Nat} {b o L : Nat} {xs : Nat → Int32} {i : Int} (C : jk_C p s m args meth c mb_Law_law "KnotReaderLaw" 9 jk_WA D jk_cl (jk_t3 cI cR cL) A ret) (hZ : jk_ZK Z sq) (hz : Z A s s.heap) (hcs : cells + 20 ≤ room_1.cells ∧ slots + 120 ≤ room_1.slots) (hX : va_X b L xs s s.heap) (hbl : b < s.heap.size) (hbA : ¬ A b) (hL : L ≤ 3072) (hi : 0 ≤ i ∧ i + 6 ≤ (L : Int)) {σ σ1 σ2 : jk_LS} {f : Nat → Int64} {r : Int} (hA : jk_MI l D jk_cl (jk_ty cI cR) Z mn_KR_errorCode (.code mn_KR_errorCode mb_KR_errorCode 1 (some .int) :: jk_WA) (jk_rm 0 0) [.ref (ad 0)] (LW cI cR g ad am σ) (LW cI cR g ad am σ1) r) (hB : jk_MI l D jk_cl (jk_ty cI cR) Z mn_Md_errorCode (.code mn_Md_errorCode mb_Md_errorCode 1 (some .int) :: jk_WA) (jk_rm 0 0) [.ref (am 0)] (LW cI cR g ad am σ1) (LW cI cR g ad am σ2) r) (kk : jk_J p l e room_1 s m args below meth c (cells + 20) (slots + 120) Q D jk_cl A 9 (LW cI cR g ad am σ2 ++ [(o, .inl (cL, 1, .inr (.inl f)))]) [(0, .ref b), (1, .ref (ad 0)), (2, .ref (am 0)), (3, .ref o), (4, jk_V i)] 2784 []) : jk_J p l e room_1 s m args below meth c (cells) (slots) Q D jk_cl A 9 (LW cI cR g ad am σ ++ [(o, .inl (cL, 1, .inr (.inl f)))]) [(0, .ref b), (1, .ref (ad 0)), (2, .ref (am 0)), (3, .ref o), (4, jk_V i)] 400 [] := by
  have C2 := jk_Csub C [0, 1] rfl (tys' := jk_ty cI cR)
  refine jk_aload_n C rd_Law_law_400 (k := 1) rfl ?_
  refine jk_callVi C2 hZ.1 hz hA tm_675 tm_676 tm_677 tm_1 tm_678 na_KR_errorCode ⟨Nat.le_of_ble_eq_true rfl, Nat.le_of_ble_eq_true rfl⟩ rfl (List.range 155) (lw_pl LW_len) nd155 LW_fst (lw_put LW_len LW_len) 0 10 (lw_hd LW_len LW_x _) rfl rfl (st := []) rfl (Nat.le_of_ble_eq_true rfl) rd_Law_law_401 ?_ ⟨by omega, by omega⟩
  refine jk_aload_n C rd_Law_law_404 (k := 2) rfl ?_
  refine jk_callVi C2 hZ.1 hz hB tm_1615 tm_1616 tm_1617 tm_15 tm_1618 na_Md_errorCode ⟨Nat.le_of_ble_eq_true rfl, Nat.le_of_ble_eq_true rfl⟩ rfl (List.range 155) (lw_pl LW_len) nd155 LW_fst (lw_put LW_len LW_len) 145 11 (lw_hd LW_len LW_m _) rfl rfl (st := [jk_V r]) rfl (Nat.le_of_ble_eq_true rfl) rd_Law_law_405 ?_ ⟨by omega, by omega⟩
  refine jk_icmp_same (tgt := 2784) C rd_Law_law_408 (by decide) ?_
  exact jk_widen (by omega) (by omega) kk

set_option maxHeartbeats 4000000 in
set_option maxRecDepth 20000 in
theorem lc_5 {p : Program} {l : Launch} {e : Env} {s : State} {m : MethodId} {args : Array Value} {below : List Frame} {meth : Method} {c : Code} {cells slots : Nat} {Q : State → Prop} {D : va_G} {A : Nat → Prop} {ret : Option FieldType} {Z : (Nat → Prop) → State → Heap → Prop} {sq : Nat → Nat} {cI cR cL : ClassId} {g : Nat → Option Nat} {ad am : Nat → Nat} {b o L : Nat} {xs : Nat → Int32} {i : Int} (C : jk_C p s m args meth c mb_Law_law "KnotReaderLaw" 9 jk_WA D jk_cl (jk_t3 cI cR cL) A ret) (hZ : jk_ZK Z sq) (hz : Z A s s.heap) (hcs : cells + 20 ≤ room_1.cells ∧ slots + 120 ≤ room_1.slots) (hX : va_X b L xs s s.heap) (hbl : b < s.heap.size) (hbA : ¬ A b) (hL : L ≤ 3072) (hi : 0 ≤ i ∧ i + 6 ≤ (L : Int)) {σ σ1 σ2 : jk_LS} {f : Nat → Int64} {r : Int} (hA : jk_MI l D jk_cl (jk_ty cI cR) Z mn_KR_errorOffset (.code mn_KR_errorOffset mb_KR_errorOffset 1 (some .int) :: jk_WA) (jk_rm 0 0) [.ref (ad 0)] (LW cI cR g ad am σ) (LW cI cR g ad am σ1) r) (hB : jk_MI l D jk_cl (jk_ty cI cR) Z mn_Md_errorOffset (.code mn_Md_errorOffset mb_Md_errorOffset 1 (some .int) :: jk_WA) (jk_rm 0 0) [.ref (am 0)] (LW cI cR g ad am σ1) (LW cI cR g ad am σ2) r) (kk : jk_J p l e room_1 s m args below meth c (cells + 20) (slots + 120) Q D jk_cl A 9 (LW cI cR g ad am σ2 ++ [(o, .inl (cL, 1, .inr (.inl f)))]) [(0, .ref b), (1, .ref (ad 0)), (2, .ref (am 0)), (3, .ref o), (4, jk_V i)] 2784 []) : jk_J p l e room_1 s m args below meth c (cells) (slots) Q D jk_cl A 9 (LW cI cR g ad am σ ++ [(o, .inl (cL, 1, .inr (.inl f)))]) [(0, .ref b), (1, .ref (ad 0)), (2, .ref (am 0)), (3, .ref o), (4, jk_V i)] 413 [] := by
  have C2 := jk_Csub C [0, 1] rfl (tys' := jk_ty cI cR)
  refine jk_aload_n C rd_Law_law_413 (k := 1) rfl ?_
  refine jk_callVi C2 hZ.1 hz hA tm_679 tm_680 tm_681 tm_1 tm_682 na_KR_errorOffset ⟨Nat.le_of_ble_eq_true rfl, Nat.le_of_ble_eq_true rfl⟩ rfl (List.range 155) (lw_pl LW_len) nd155 LW_fst (lw_put LW_len LW_len) 0 10 (lw_hd LW_len LW_x _) rfl rfl (st := []) rfl (Nat.le_of_ble_eq_true rfl) rd_Law_law_414 ?_ ⟨by omega, by omega⟩
  refine jk_aload_n C rd_Law_law_417 (k := 2) rfl ?_
  refine jk_callVi C2 hZ.1 hz hB tm_1619 tm_1620 tm_1621 tm_15 tm_1622 na_Md_errorOffset ⟨Nat.le_of_ble_eq_true rfl, Nat.le_of_ble_eq_true rfl⟩ rfl (List.range 155) (lw_pl LW_len) nd155 LW_fst (lw_put LW_len LW_len) 145 11 (lw_hd LW_len LW_m _) rfl rfl (st := [jk_V r]) rfl (Nat.le_of_ble_eq_true rfl) rd_Law_law_418 ?_ ⟨by omega, by omega⟩
  refine jk_icmp_same (tgt := 2784) C rd_Law_law_421 (by decide) ?_
  exact jk_widen (by omega) (by omega) kk

set_option maxHeartbeats 4000000 in
set_option maxRecDepth 20000 in
theorem lc_6 {p : Program} {l : Launch} {e : Env} {s : State} {m : MethodId} {args : Array Value} {below : List Frame} {meth : Method} {c : Code} {cells slots : Nat} {Q : State → Prop} {D : va_G} {A : Nat → Prop} {ret : Option FieldType} {Z : (Nat → Prop) → State → Heap → Prop} {sq : Nat → Nat} {cI cR cL : ClassId} {g : Nat → Option Nat} {ad am : Nat → Nat} {b o L : Nat} {xs : Nat → Int32} {i : Int} (C : jk_C p s m args meth c mb_Law_law "KnotReaderLaw" 9 jk_WA D jk_cl (jk_t3 cI cR cL) A ret) (hZ : jk_ZK Z sq) (hz : Z A s s.heap) (hcs : cells + 20 ≤ room_1.cells ∧ slots + 120 ≤ room_1.slots) (hX : va_X b L xs s s.heap) (hbl : b < s.heap.size) (hbA : ¬ A b) (hL : L ≤ 3072) (hi : 0 ≤ i ∧ i + 6 ≤ (L : Int)) {σ σ1 σ2 : jk_LS} {f : Nat → Int64} {r : Int} (hA : jk_MI l D jk_cl (jk_ty cI cR) Z mn_KR_topicCount (.code mn_KR_topicCount mb_KR_topicCount 1 (some .int) :: jk_WA) (jk_rm 0 0) [.ref (ad 0)] (LW cI cR g ad am σ) (LW cI cR g ad am σ1) r) (hB : jk_MI l D jk_cl (jk_ty cI cR) Z mn_Md_topicCount (.code mn_Md_topicCount mb_Md_topicCount 1 (some .int) :: jk_WA) (jk_rm 0 0) [.ref (am 0)] (LW cI cR g ad am σ1) (LW cI cR g ad am σ2) r) (kk : jk_J p l e room_1 s m args below meth c (cells + 20) (slots + 120) Q D jk_cl A 9 (LW cI cR g ad am σ2 ++ [(o, .inl (cL, 1, .inr (.inl f)))]) [(0, .ref b), (1, .ref (ad 0)), (2, .ref (am 0)), (3, .ref o), (4, jk_V i)] 2784 []) : jk_J p l e room_1 s m args below meth c (cells) (slots) Q D jk_cl A 9 (LW cI cR g ad am σ ++ [(o, .inl (cL, 1, .inr (.inl f)))]) [(0, .ref b), (1, .ref (ad 0)), (2, .ref (am 0)), (3, .ref o), (4, jk_V i)] 426 [] := by
  have C2 := jk_Csub C [0, 1] rfl (tys' := jk_ty cI cR)
  refine jk_aload_n C rd_Law_law_426 (k := 1) rfl ?_
  refine jk_callVi C2 hZ.1 hz hA tm_683 tm_684 tm_685 tm_1 tm_686 na_KR_topicCount ⟨Nat.le_of_ble_eq_true rfl, Nat.le_of_ble_eq_true rfl⟩ rfl (List.range 155) (lw_pl LW_len) nd155 LW_fst (lw_put LW_len LW_len) 0 10 (lw_hd LW_len LW_x _) rfl rfl (st := []) rfl (Nat.le_of_ble_eq_true rfl) rd_Law_law_427 ?_ ⟨by omega, by omega⟩
  refine jk_aload_n C rd_Law_law_430 (k := 2) rfl ?_
  refine jk_callVi C2 hZ.1 hz hB tm_1623 tm_1624 tm_1625 tm_15 tm_1626 na_Md_topicCount ⟨Nat.le_of_ble_eq_true rfl, Nat.le_of_ble_eq_true rfl⟩ rfl (List.range 155) (lw_pl LW_len) nd155 LW_fst (lw_put LW_len LW_len) 145 11 (lw_hd LW_len LW_m _) rfl rfl (st := [jk_V r]) rfl (Nat.le_of_ble_eq_true rfl) rd_Law_law_431 ?_ ⟨by omega, by omega⟩
  refine jk_icmp_same (tgt := 2784) C rd_Law_law_434 (by decide) ?_
  exact jk_widen (by omega) (by omega) kk

set_option maxHeartbeats 4000000 in
set_option maxRecDepth 20000 in
theorem lc_7 {p : Program} {l : Launch} {e : Env} {s : State} {m : MethodId} {args : Array Value} {below : List Frame} {meth : Method} {c : Code} {cells slots : Nat} {Q : State → Prop} {D : va_G} {A : Nat → Prop} {ret : Option FieldType} {Z : (Nat → Prop) → State → Heap → Prop} {sq : Nat → Nat} {cI cR cL : ClassId} {g : Nat → Option Nat} {ad am : Nat → Nat} {b o L : Nat} {xs : Nat → Int32} {i : Int} (C : jk_C p s m args meth c mb_Law_law "KnotReaderLaw" 9 jk_WA D jk_cl (jk_t3 cI cR cL) A ret) (hZ : jk_ZK Z sq) (hz : Z A s s.heap) (hcs : cells + 20 ≤ room_1.cells ∧ slots + 120 ≤ room_1.slots) (hX : va_X b L xs s s.heap) (hbl : b < s.heap.size) (hbA : ¬ A b) (hL : L ≤ 3072) (hi : 0 ≤ i ∧ i + 6 ≤ (L : Int)) {σ σ1 σ2 : jk_LS} {f : Nat → Int64} {r : Int} (hA : jk_MI l D jk_cl (jk_ty cI cR) Z mn_KR_clusterCount (.code mn_KR_clusterCount mb_KR_clusterCount 1 (some .int) :: jk_WA) (jk_rm 0 0) [.ref (ad 0)] (LW cI cR g ad am σ) (LW cI cR g ad am σ1) r) (hB : jk_MI l D jk_cl (jk_ty cI cR) Z mn_Md_clusterCount (.code mn_Md_clusterCount mb_Md_clusterCount 1 (some .int) :: jk_WA) (jk_rm 0 0) [.ref (am 0)] (LW cI cR g ad am σ1) (LW cI cR g ad am σ2) r) (kk : jk_J p l e room_1 s m args below meth c (cells + 20) (slots + 120) Q D jk_cl A 9 (LW cI cR g ad am σ2 ++ [(o, .inl (cL, 1, .inr (.inl f)))]) [(0, .ref b), (1, .ref (ad 0)), (2, .ref (am 0)), (3, .ref o), (4, jk_V i)] 2784 []) : jk_J p l e room_1 s m args below meth c (cells) (slots) Q D jk_cl A 9 (LW cI cR g ad am σ ++ [(o, .inl (cL, 1, .inr (.inl f)))]) [(0, .ref b), (1, .ref (ad 0)), (2, .ref (am 0)), (3, .ref o), (4, jk_V i)] 439 [] := by
  have C2 := jk_Csub C [0, 1] rfl (tys' := jk_ty cI cR)
  refine jk_aload_n C rd_Law_law_439 (k := 1) rfl ?_
  refine jk_callVi C2 hZ.1 hz hA tm_687 tm_688 tm_689 tm_1 tm_690 na_KR_clusterCount ⟨Nat.le_of_ble_eq_true rfl, Nat.le_of_ble_eq_true rfl⟩ rfl (List.range 155) (lw_pl LW_len) nd155 LW_fst (lw_put LW_len LW_len) 0 10 (lw_hd LW_len LW_x _) rfl rfl (st := []) rfl (Nat.le_of_ble_eq_true rfl) rd_Law_law_440 ?_ ⟨by omega, by omega⟩
  refine jk_aload_n C rd_Law_law_443 (k := 2) rfl ?_
  refine jk_callVi C2 hZ.1 hz hB tm_1627 tm_1628 tm_1629 tm_15 tm_1630 na_Md_clusterCount ⟨Nat.le_of_ble_eq_true rfl, Nat.le_of_ble_eq_true rfl⟩ rfl (List.range 155) (lw_pl LW_len) nd155 LW_fst (lw_put LW_len LW_len) 145 11 (lw_hd LW_len LW_m _) rfl rfl (st := [jk_V r]) rfl (Nat.le_of_ble_eq_true rfl) rd_Law_law_444 ?_ ⟨by omega, by omega⟩
  refine jk_icmp_same (tgt := 2784) C rd_Law_law_447 (by decide) ?_
  exact jk_widen (by omega) (by omega) kk

set_option maxHeartbeats 4000000 in
set_option maxRecDepth 20000 in
theorem lc_8 {p : Program} {l : Launch} {e : Env} {s : State} {m : MethodId} {args : Array Value} {below : List Frame} {meth : Method} {c : Code} {cells slots : Nat} {Q : State → Prop} {D : va_G} {A : Nat → Prop} {ret : Option FieldType} {Z : (Nat → Prop) → State → Heap → Prop} {sq : Nat → Nat} {cI cR cL : ClassId} {g : Nat → Option Nat} {ad am : Nat → Nat} {b o L : Nat} {xs : Nat → Int32} {i : Int} (C : jk_C p s m args meth c mb_Law_law "KnotReaderLaw" 9 jk_WA D jk_cl (jk_t3 cI cR cL) A ret) (hZ : jk_ZK Z sq) (hz : Z A s s.heap) (hcs : cells + 20 ≤ room_1.cells ∧ slots + 120 ≤ room_1.slots) (hX : va_X b L xs s s.heap) (hbl : b < s.heap.size) (hbA : ¬ A b) (hL : L ≤ 3072) (hi : 0 ≤ i ∧ i + 6 ≤ (L : Int)) {σ σ1 σ2 : jk_LS} {f : Nat → Int64} {r : Int} (hA : jk_MI l D jk_cl (jk_ty cI cR) Z mn_KR_cordCount (.code mn_KR_cordCount mb_KR_cordCount 1 (some .int) :: jk_WA) (jk_rm 0 0) [.ref (ad 0)] (LW cI cR g ad am σ) (LW cI cR g ad am σ1) r) (hB : jk_MI l D jk_cl (jk_ty cI cR) Z mn_Md_cordCount (.code mn_Md_cordCount mb_Md_cordCount 1 (some .int) :: jk_WA) (jk_rm 0 0) [.ref (am 0)] (LW cI cR g ad am σ1) (LW cI cR g ad am σ2) r) (kk : jk_J p l e room_1 s m args below meth c (cells + 20) (slots + 120) Q D jk_cl A 9 (LW cI cR g ad am σ2 ++ [(o, .inl (cL, 1, .inr (.inl f)))]) [(0, .ref b), (1, .ref (ad 0)), (2, .ref (am 0)), (3, .ref o), (4, jk_V i)] 2784 []) : jk_J p l e room_1 s m args below meth c (cells) (slots) Q D jk_cl A 9 (LW cI cR g ad am σ ++ [(o, .inl (cL, 1, .inr (.inl f)))]) [(0, .ref b), (1, .ref (ad 0)), (2, .ref (am 0)), (3, .ref o), (4, jk_V i)] 452 [] := by
  have C2 := jk_Csub C [0, 1] rfl (tys' := jk_ty cI cR)
  refine jk_aload_n C rd_Law_law_452 (k := 1) rfl ?_
  refine jk_callVi C2 hZ.1 hz hA tm_691 tm_692 tm_693 tm_1 tm_694 na_KR_cordCount ⟨Nat.le_of_ble_eq_true rfl, Nat.le_of_ble_eq_true rfl⟩ rfl (List.range 155) (lw_pl LW_len) nd155 LW_fst (lw_put LW_len LW_len) 0 10 (lw_hd LW_len LW_x _) rfl rfl (st := []) rfl (Nat.le_of_ble_eq_true rfl) rd_Law_law_453 ?_ ⟨by omega, by omega⟩
  refine jk_aload_n C rd_Law_law_456 (k := 2) rfl ?_
  refine jk_callVi C2 hZ.1 hz hB tm_1631 tm_1632 tm_1633 tm_15 tm_1634 na_Md_cordCount ⟨Nat.le_of_ble_eq_true rfl, Nat.le_of_ble_eq_true rfl⟩ rfl (List.range 155) (lw_pl LW_len) nd155 LW_fst (lw_put LW_len LW_len) 145 11 (lw_hd LW_len LW_m _) rfl rfl (st := [jk_V r]) rfl (Nat.le_of_ble_eq_true rfl) rd_Law_law_457 ?_ ⟨by omega, by omega⟩
  refine jk_icmp_same (tgt := 2784) C rd_Law_law_460 (by decide) ?_
  exact jk_widen (by omega) (by omega) kk

set_option maxHeartbeats 4000000 in
set_option maxRecDepth 20000 in
theorem lc_9 {p : Program} {l : Launch} {e : Env} {s : State} {m : MethodId} {args : Array Value} {below : List Frame} {meth : Method} {c : Code} {cells slots : Nat} {Q : State → Prop} {D : va_G} {A : Nat → Prop} {ret : Option FieldType} {Z : (Nat → Prop) → State → Heap → Prop} {sq : Nat → Nat} {cI cR cL : ClassId} {g : Nat → Option Nat} {ad am : Nat → Nat} {b o L : Nat} {xs : Nat → Int32} {i : Int} (C : jk_C p s m args meth c mb_Law_law "KnotReaderLaw" 9 jk_WA D jk_cl (jk_t3 cI cR cL) A ret) (hZ : jk_ZK Z sq) (hz : Z A s s.heap) (hcs : cells + 20 ≤ room_1.cells ∧ slots + 120 ≤ room_1.slots) (hX : va_X b L xs s s.heap) (hbl : b < s.heap.size) (hbA : ¬ A b) (hL : L ≤ 3072) (hi : 0 ≤ i ∧ i + 6 ≤ (L : Int)) {σ σ1 σ2 : jk_LS} {f : Nat → Int64} {r : Int} (hA : jk_MI l D jk_cl (jk_ty cI cR) Z mn_KR_knotCount (.code mn_KR_knotCount mb_KR_knotCount 3 (some .int) :: jk_WA) (jk_rm 3 66) [.ref (ad 0)] (LW cI cR g ad am σ) (LW cI cR g ad am σ1) r) (hB : jk_MI l D jk_cl (jk_ty cI cR) Z mn_Md_knotCount (.code mn_Md_knotCount mb_Md_knotCount 3 (some .int) :: jk_WA) (jk_rm 3 67) [.ref (am 0)] (LW cI cR g ad am σ1) (LW cI cR g ad am σ2) r) (kk : jk_J p l e room_1 s m args below meth c (cells + 20) (slots + 120) Q D jk_cl A 9 (LW cI cR g ad am σ2 ++ [(o, .inl (cL, 1, .inr (.inl f)))]) [(0, .ref b), (1, .ref (ad 0)), (2, .ref (am 0)), (3, .ref o), (4, jk_V i)] 2784 []) : jk_J p l e room_1 s m args below meth c (cells) (slots) Q D jk_cl A 9 (LW cI cR g ad am σ ++ [(o, .inl (cL, 1, .inr (.inl f)))]) [(0, .ref b), (1, .ref (ad 0)), (2, .ref (am 0)), (3, .ref o), (4, jk_V i)] 465 [] := by
  have C2 := jk_Csub C [0, 1] rfl (tys' := jk_ty cI cR)
  refine jk_aload_n C rd_Law_law_465 (k := 1) rfl ?_
  refine jk_callVi C2 hZ.1 hz hA tm_695 tm_696 tm_697 tm_1 tm_698 na_KR_knotCount ⟨Nat.le_of_ble_eq_true rfl, Nat.le_of_ble_eq_true rfl⟩ rfl (List.range 155) (lw_pl LW_len) nd155 LW_fst (lw_put LW_len LW_len) 0 10 (lw_hd LW_len LW_x _) rfl rfl (st := []) rfl (Nat.le_of_ble_eq_true rfl) rd_Law_law_466 ?_ ⟨by omega, by omega⟩
  refine jk_aload_n C rd_Law_law_469 (k := 2) rfl ?_
  refine jk_callVi C2 hZ.1 hz hB tm_1731 tm_1732 tm_1733 tm_15 tm_1734 na_Md_knotCount ⟨Nat.le_of_ble_eq_true rfl, Nat.le_of_ble_eq_true rfl⟩ rfl (List.range 155) (lw_pl LW_len) nd155 LW_fst (lw_put LW_len LW_len) 145 11 (lw_hd LW_len LW_m _) rfl rfl (st := [jk_V r]) rfl (Nat.le_of_ble_eq_true rfl) rd_Law_law_470 ?_ ⟨by omega, by omega⟩
  refine jk_icmp_same (tgt := 2784) C rd_Law_law_473 (by decide) ?_
  exact jk_widen (by omega) (by omega) kk

set_option maxHeartbeats 4000000 in
set_option maxRecDepth 20000 in
theorem lc_10 {p : Program} {l : Launch} {e : Env} {s : State} {m : MethodId} {args : Array Value} {below : List Frame} {meth : Method} {c : Code} {cells slots : Nat} {Q : State → Prop} {D : va_G} {A : Nat → Prop} {ret : Option FieldType} {Z : (Nat → Prop) → State → Heap → Prop} {sq : Nat → Nat} {cI cR cL : ClassId} {g : Nat → Option Nat} {ad am : Nat → Nat} {b o L : Nat} {xs : Nat → Int32} {i : Int} (C : jk_C p s m args meth c mb_Law_law "KnotReaderLaw" 9 jk_WA D jk_cl (jk_t3 cI cR cL) A ret) (hZ : jk_ZK Z sq) (hz : Z A s s.heap) (hcs : cells + 20 ≤ room_1.cells ∧ slots + 120 ≤ room_1.slots) (hX : va_X b L xs s s.heap) (hbl : b < s.heap.size) (hbA : ¬ A b) (hL : L ≤ 3072) (hi : 0 ≤ i ∧ i + 6 ≤ (L : Int)) {σ σ1 σ2 : jk_LS} {f : Nat → Int64} {r : Int} (hA : jk_MI l D jk_cl (jk_ty cI cR) Z mn_KR_nibbledCount (.code mn_KR_nibbledCount mb_KR_nibbledCount 1 (some .int) :: jk_WA) (jk_rm 2 45) [.ref (ad 0)] (LW cI cR g ad am σ) (LW cI cR g ad am σ1) r) (hB : jk_MI l D jk_cl (jk_ty cI cR) Z mn_Md_nibbledCount (.code mn_Md_nibbledCount mb_Md_nibbledCount 1 (some .int) :: jk_WA) (jk_rm 3 65) [.ref (am 0)] (LW cI cR g ad am σ1) (LW cI cR g ad am σ2) r) (kk : jk_J p l e room_1 s m args below meth c (cells + 20) (slots + 120) Q D jk_cl A 9 (LW cI cR g ad am σ2 ++ [(o, .inl (cL, 1, .inr (.inl f)))]) [(0, .ref b), (1, .ref (ad 0)), (2, .ref (am 0)), (3, .ref o), (4, jk_V i)] 2784 []) : jk_J p l e room_1 s m args below meth c (cells) (slots) Q D jk_cl A 9 (LW cI cR g ad am σ ++ [(o, .inl (cL, 1, .inr (.inl f)))]) [(0, .ref b), (1, .ref (ad 0)), (2, .ref (am 0)), (3, .ref o), (4, jk_V i)] 478 [] := by
  have C2 := jk_Csub C [0, 1] rfl (tys' := jk_ty cI cR)
  refine jk_aload_n C rd_Law_law_478 (k := 1) rfl ?_
  refine jk_callVi C2 hZ.1 hz hA tm_700 tm_701 tm_702 tm_1 tm_703 na_KR_nibbledCount ⟨Nat.le_of_ble_eq_true rfl, Nat.le_of_ble_eq_true rfl⟩ rfl (List.range 155) (lw_pl LW_len) nd155 LW_fst (lw_put LW_len LW_len) 0 10 (lw_hd LW_len LW_x _) rfl rfl (st := []) rfl (Nat.le_of_ble_eq_true rfl) rd_Law_law_479 ?_ ⟨by omega, by omega⟩
  refine jk_aload_n C rd_Law_law_482 (k := 2) rfl ?_
  refine jk_callVi C2 hZ.1 hz hB tm_1735 tm_1736 tm_1737 tm_15 tm_1738 na_Md_nibbledCount ⟨Nat.le_of_ble_eq_true rfl, Nat.le_of_ble_eq_true rfl⟩ rfl (List.range 155) (lw_pl LW_len) nd155 LW_fst (lw_put LW_len LW_len) 145 11 (lw_hd LW_len LW_m _) rfl rfl (st := [jk_V r]) rfl (Nat.le_of_ble_eq_true rfl) rd_Law_law_483 ?_ ⟨by omega, by omega⟩
  refine jk_icmp_same (tgt := 2784) C rd_Law_law_486 (by decide) ?_
  exact jk_widen (by omega) (by omega) kk

set_option maxHeartbeats 4000000 in
set_option maxRecDepth 20000 in
theorem lc_11 {p : Program} {l : Launch} {e : Env} {s : State} {m : MethodId} {args : Array Value} {below : List Frame} {meth : Method} {c : Code} {cells slots : Nat} {Q : State → Prop} {D : va_G} {A : Nat → Prop} {ret : Option FieldType} {Z : (Nat → Prop) → State → Heap → Prop} {sq : Nat → Nat} {cI cR cL : ClassId} {g : Nat → Option Nat} {ad am : Nat → Nat} {b o L : Nat} {xs : Nat → Int32} {i : Int} (C : jk_C p s m args meth c mb_Law_law "KnotReaderLaw" 9 jk_WA D jk_cl (jk_t3 cI cR cL) A ret) (hZ : jk_ZK Z sq) (hz : Z A s s.heap) (hcs : cells + 20 ≤ room_1.cells ∧ slots + 120 ≤ room_1.slots) (hX : va_X b L xs s s.heap) (hbl : b < s.heap.size) (hbA : ¬ A b) (hL : L ≤ 3072) (hi : 0 ≤ i ∧ i + 6 ≤ (L : Int)) {σ σ1 σ2 : jk_LS} {f : Nat → Int64} {r : Int} (hA : jk_MI l D jk_cl (jk_ty cI cR) Z mn_KR_matchingCount (.code mn_KR_matchingCount mb_KR_matchingCount 3 (some .int) :: jk_WA) (jk_rm 4 88) [.ref (ad 0)] (LW cI cR g ad am σ) (LW cI cR g ad am σ1) r) (hB : jk_MI l D jk_cl (jk_ty cI cR) Z mn_Md_matchingCount (.code mn_Md_matchingCount mb_Md_matchingCount 3 (some .int) :: jk_WA) (jk_rm 7 152) [.ref (am 0)] (LW cI cR g ad am σ1) (LW cI cR g ad am σ2) r) (kk : jk_J p l e room_1 s m args below meth c (cells + 20) (slots + 120) Q D jk_cl A 9 (LW cI cR g ad am σ2 ++ [(o, .inl (cL, 1, .inr (.inl f)))]) [(0, .ref b), (1, .ref (ad 0)), (2, .ref (am 0)), (3, .ref o), (4, jk_V i)] 2784 []) : jk_J p l e room_1 s m args below meth c (cells) (slots) Q D jk_cl A 9 (LW cI cR g ad am σ ++ [(o, .inl (cL, 1, .inr (.inl f)))]) [(0, .ref b), (1, .ref (ad 0)), (2, .ref (am 0)), (3, .ref o), (4, jk_V i)] 491 [] := by
  have C2 := jk_Csub C [0, 1] rfl (tys' := jk_ty cI cR)
  refine jk_aload_n C rd_Law_law_491 (k := 1) rfl ?_
  refine jk_callVi C2 hZ.1 hz hA tm_705 tm_706 tm_707 tm_1 tm_708 na_KR_matchingCount ⟨Nat.le_of_ble_eq_true rfl, Nat.le_of_ble_eq_true rfl⟩ rfl (List.range 155) (lw_pl LW_len) nd155 LW_fst (lw_put LW_len LW_len) 0 10 (lw_hd LW_len LW_x _) rfl rfl (st := []) rfl (Nat.le_of_ble_eq_true rfl) rd_Law_law_492 ?_ ⟨by omega, by omega⟩
  refine jk_aload_n C rd_Law_law_495 (k := 2) rfl ?_
  refine jk_callVi C2 hZ.1 hz hB tm_1743 tm_1744 tm_1745 tm_15 tm_1746 na_Md_matchingCount ⟨Nat.le_of_ble_eq_true rfl, Nat.le_of_ble_eq_true rfl⟩ rfl (List.range 155) (lw_pl LW_len) nd155 LW_fst (lw_put LW_len LW_len) 145 11 (lw_hd LW_len LW_m _) rfl rfl (st := [jk_V r]) rfl (Nat.le_of_ble_eq_true rfl) rd_Law_law_496 ?_ ⟨by omega, by omega⟩
  refine jk_icmp_same (tgt := 2784) C rd_Law_law_499 (by decide) ?_
  exact jk_widen (by omega) (by omega) kk

set_option maxHeartbeats 4000000 in
set_option maxRecDepth 20000 in
theorem lc_36 {p : Program} {l : Launch} {e : Env} {s : State} {m : MethodId} {args : Array Value} {below : List Frame} {meth : Method} {c : Code} {cells slots : Nat} {Q : State → Prop} {D : va_G} {A : Nat → Prop} {ret : Option FieldType} {Z : (Nat → Prop) → State → Heap → Prop} {sq : Nat → Nat} {cI cR cL : ClassId} {g : Nat → Option Nat} {ad am : Nat → Nat} {b o L : Nat} {xs : Nat → Int32} {i : Int} (C : jk_C p s m args meth c mb_Law_law "KnotReaderLaw" 9 jk_WA D jk_cl (jk_t3 cI cR cL) A ret) (hZ : jk_ZK Z sq) (hz : Z A s s.heap) (hcs : cells + 20 ≤ room_1.cells ∧ slots + 120 ≤ room_1.slots) (hX : va_X b L xs s s.heap) (hbl : b < s.heap.size) (hbA : ¬ A b) (hL : L ≤ 3072) (hi : 0 ≤ i ∧ i + 6 ≤ (L : Int)) {σ σ1 σ2 : jk_LS} {f : Nat → Int64} {r : Int} (hA : jk_MI l D jk_cl (jk_ty cI cR) Z mn_KR_mostUsedTopic (.code mn_KR_mostUsedTopic mb_KR_mostUsedTopic 3 (some .int) :: jk_WA) (jk_rm 2 44) [.ref (ad 0)] (LW cI cR g ad am σ) (LW cI cR g ad am σ1) r) (hB : jk_MI l D jk_cl (jk_ty cI cR) Z mn_Md_mostUsedTopic (.code mn_Md_mostUsedTopic mb_Md_mostUsedTopic 3 (some .int) :: jk_WA) (jk_rm 2 45) [.ref (am 0)] (LW cI cR g ad am σ1) (LW cI cR g ad am σ2) r) (kk : jk_J p l e room_1 s m args below meth c (cells + 20) (slots + 120) Q D jk_cl A 9 (LW cI cR g ad am σ2 ++ [(o, .inl (cL, 1, .inr (.inl f)))]) [(0, .ref b), (1, .ref (ad 0)), (2, .ref (am 0)), (3, .ref o), (4, jk_V i)] 2784 []) : jk_J p l e room_1 s m args below meth c (cells) (slots) Q D jk_cl A 9 (LW cI cR g ad am σ ++ [(o, .inl (cL, 1, .inr (.inl f)))]) [(0, .ref b), (1, .ref (ad 0)), (2, .ref (am 0)), (3, .ref o), (4, jk_V i)] 1879 [] := by
  have C2 := jk_Csub C [0, 1] rfl (tys' := jk_ty cI cR)
  refine jk_aload_n C rd_Law_law_1879 (k := 1) rfl ?_
  refine jk_callVi C2 hZ.1 hz hA tm_713 tm_714 tm_715 tm_1 tm_716 na_KR_mostUsedTopic ⟨Nat.le_of_ble_eq_true rfl, Nat.le_of_ble_eq_true rfl⟩ rfl (List.range 155) (lw_pl LW_len) nd155 LW_fst (lw_put LW_len LW_len) 0 10 (lw_hd LW_len LW_x _) rfl rfl (st := []) rfl (Nat.le_of_ble_eq_true rfl) rd_Law_law_1880 ?_ ⟨by omega, by omega⟩
  refine jk_aload_n C rd_Law_law_1883 (k := 2) rfl ?_
  refine jk_callVi C2 hZ.1 hz hB tm_1799 tm_1800 tm_1801 tm_15 tm_1802 na_Md_mostUsedTopic ⟨Nat.le_of_ble_eq_true rfl, Nat.le_of_ble_eq_true rfl⟩ rfl (List.range 155) (lw_pl LW_len) nd155 LW_fst (lw_put LW_len LW_len) 145 11 (lw_hd LW_len LW_m _) rfl rfl (st := [jk_V r]) rfl (Nat.le_of_ble_eq_true rfl) rd_Law_law_1884 ?_ ⟨by omega, by omega⟩
  refine jk_icmp_same (tgt := 2784) C rd_Law_law_1887 (by decide) ?_
  exact jk_widen (by omega) (by omega) kk

set_option maxHeartbeats 4000000 in
set_option maxRecDepth 20000 in
theorem lc_37 {p : Program} {l : Launch} {e : Env} {s : State} {m : MethodId} {args : Array Value} {below : List Frame} {meth : Method} {c : Code} {cells slots : Nat} {Q : State → Prop} {D : va_G} {A : Nat → Prop} {ret : Option FieldType} {Z : (Nat → Prop) → State → Heap → Prop} {sq : Nat → Nat} {cI cR cL : ClassId} {g : Nat → Option Nat} {ad am : Nat → Nat} {b o L : Nat} {xs : Nat → Int32} {i : Int} (C : jk_C p s m args meth c mb_Law_law "KnotReaderLaw" 9 jk_WA D jk_cl (jk_t3 cI cR cL) A ret) (hZ : jk_ZK Z sq) (hz : Z A s s.heap) (hcs : cells + 20 ≤ room_1.cells ∧ slots + 120 ≤ room_1.slots) (hX : va_X b L xs s s.heap) (hbl : b < s.heap.size) (hbA : ¬ A b) (hL : L ≤ 3072) (hi : 0 ≤ i ∧ i + 6 ≤ (L : Int)) {σ σ1 σ2 : jk_LS} {f : Nat → Int64} {r : Int} (hA : jk_MI l D jk_cl (jk_ty cI cR) Z mn_KR_greatestCord (.code mn_KR_greatestCord mb_KR_greatestCord 3 (some .int) :: jk_WA) (jk_rm 1 21) [.ref (ad 0)] (LW cI cR g ad am σ) (LW cI cR g ad am σ1) r) (hB : jk_MI l D jk_cl (jk_ty cI cR) Z mn_Md_greatestCord (.code mn_Md_greatestCord mb_Md_greatestCord 3 (some .int) :: jk_WA) (jk_rm 1 22) [.ref (am 0)] (LW cI cR g ad am σ1) (LW cI cR g ad am σ2) r) (kk : jk_J p l e room_1 s m args below meth c (cells + 20) (slots + 120) Q D jk_cl A 9 (LW cI cR g ad am σ2 ++ [(o, .inl (cL, 1, .inr (.inl f)))]) [(0, .ref b), (1, .ref (ad 0)), (2, .ref (am 0)), (3, .ref o), (4, jk_V i)] 2784 []) : jk_J p l e room_1 s m args below meth c (cells) (slots) Q D jk_cl A 9 (LW cI cR g ad am σ ++ [(o, .inl (cL, 1, .inr (.inl f)))]) [(0, .ref b), (1, .ref (ad 0)), (2, .ref (am 0)), (3, .ref o), (4, jk_V i)] 1892 [] := by
  have C2 := jk_Csub C [0, 1] rfl (tys' := jk_ty cI cR)
  refine jk_aload_n C rd_Law_law_1892 (k := 1) rfl ?_
  refine jk_callVi C2 hZ.1 hz hA tm_721 tm_722 tm_723 tm_1 tm_724 na_KR_greatestCord ⟨Nat.le_of_ble_eq_true rfl, Nat.le_of_ble_eq_true rfl⟩ rfl (List.range 155) (lw_pl LW_len) nd155 LW_fst (lw_put LW_len LW_len) 0 10 (lw_hd LW_len LW_x _) rfl rfl (st := []) rfl (Nat.le_of_ble_eq_true rfl) rd_Law_law_1893 ?_ ⟨by omega, by omega⟩
  refine jk_aload_n C rd_Law_law_1896 (k := 2) rfl ?_
  refine jk_callVi C2 hZ.1 hz hB tm_1803 tm_1804 tm_1805 tm_15 tm_1806 na_Md_greatestCord ⟨Nat.le_of_ble_eq_true rfl, Nat.le_of_ble_eq_true rfl⟩ rfl (List.range 155) (lw_pl LW_len) nd155 LW_fst (lw_put LW_len LW_len) 145 11 (lw_hd LW_len LW_m _) rfl rfl (st := [jk_V r]) rfl (Nat.le_of_ble_eq_true rfl) rd_Law_law_1897 ?_ ⟨by omega, by omega⟩
  refine jk_icmp_same (tgt := 2784) C rd_Law_law_1900 (by decide) ?_
  exact jk_widen (by omega) (by omega) kk

set_option maxHeartbeats 4000000 in
set_option maxRecDepth 20000 in
theorem lc_40 {p : Program} {l : Launch} {e : Env} {s : State} {m : MethodId} {args : Array Value} {below : List Frame} {meth : Method} {c : Code} {cells slots : Nat} {Q : State → Prop} {D : va_G} {A : Nat → Prop} {ret : Option FieldType} {Z : (Nat → Prop) → State → Heap → Prop} {sq : Nat → Nat} {cI cR cL : ClassId} {g : Nat → Option Nat} {ad am : Nat → Nat} {b o L : Nat} {xs : Nat → Int32} {i : Int} (C : jk_C p s m args meth c mb_Law_law "KnotReaderLaw" 9 jk_WA D jk_cl (jk_t3 cI cR cL) A ret) (hZ : jk_ZK Z sq) (hz : Z A s s.heap) (hcs : cells + 20 ≤ room_1.cells ∧ slots + 120 ≤ room_1.slots) (hX : va_X b L xs s s.heap) (hbl : b < s.heap.size) (hbA : ¬ A b) (hL : L ≤ 3072) (hi : 0 ≤ i ∧ i + 6 ≤ (L : Int)) {σ σ1 σ2 : jk_LS} {f : Nat → Int64} {r : Int} (hA : jk_MI l D jk_cl (jk_ty cI cR) Z mn_KR_isConsistent (.code mn_KR_isConsistent mb_KR_isConsistent 1 (some .boolean) :: jk_WA) (jk_rm 13 313) [.ref (ad 0)] (LW cI cR g ad am σ) (LW cI cR g ad am σ1) r) (hB : jk_MI l D jk_cl (jk_ty cI cR) Z mn_Md_isConsistent (.code mn_Md_isConsistent mb_Md_isConsistent 3 (some .boolean) :: jk_WA) (jk_rm 12 275) [.ref (am 0)] (LW cI cR g ad am σ1) (LW cI cR g ad am σ2) r) (kk : jk_J p l e room_1 s m args below meth c (cells + 20) (slots + 120) Q D jk_cl A 9 (LW cI cR g ad am σ2 ++ [(o, .inl (cL, 1, .inr (.inl f)))]) [(0, .ref b), (1, .ref (ad 0)), (2, .ref (am 0)), (3, .ref o), (4, jk_V i)] 2784 []) : jk_J p l e room_1 s m args below meth c (cells) (slots) Q D jk_cl A 9 (LW cI cR g ad am σ ++ [(o, .inl (cL, 1, .inr (.inl f)))]) [(0, .ref b), (1, .ref (ad 0)), (2, .ref (am 0)), (3, .ref o), (4, jk_V i)] 1989 [] := by
  have C2 := jk_Csub C [0, 1] rfl (tys' := jk_ty cI cR)
  refine jk_aload_n C rd_Law_law_1989 (k := 1) rfl ?_
  refine jk_callVi C2 hZ.1 hz hA tm_734 tm_735 tm_736 tm_1 tm_737 na_KR_isConsistent ⟨Nat.le_of_ble_eq_true rfl, Nat.le_of_ble_eq_true rfl⟩ rfl (List.range 155) (lw_pl LW_len) nd155 LW_fst (lw_put LW_len LW_len) 0 10 (lw_hd LW_len LW_x _) rfl rfl (st := []) rfl (Nat.le_of_ble_eq_true rfl) rd_Law_law_1990 ?_ ⟨by omega, by omega⟩
  refine jk_aload_n C rd_Law_law_1993 (k := 2) rfl ?_
  refine jk_callVi C2 hZ.1 hz hB tm_1815 tm_1816 tm_1817 tm_15 tm_1818 na_Md_isConsistent ⟨Nat.le_of_ble_eq_true rfl, Nat.le_of_ble_eq_true rfl⟩ rfl (List.range 155) (lw_pl LW_len) nd155 LW_fst (lw_put LW_len LW_len) 145 11 (lw_hd LW_len LW_m _) rfl rfl (st := [jk_V r]) rfl (Nat.le_of_ble_eq_true rfl) rd_Law_law_1994 ?_ ⟨by omega, by omega⟩
  refine jk_icmp_same (tgt := 2784) C rd_Law_law_1997 (by decide) ?_
  exact jk_widen (by omega) (by omega) kk

set_option maxHeartbeats 4000000 in
set_option maxRecDepth 20000 in
theorem lc_52 {p : Program} {l : Launch} {e : Env} {s : State} {m : MethodId} {args : Array Value} {below : List Frame} {meth : Method} {c : Code} {cells slots : Nat} {Q : State → Prop} {D : va_G} {A : Nat → Prop} {ret : Option FieldType} {Z : (Nat → Prop) → State → Heap → Prop} {sq : Nat → Nat} {cI cR cL : ClassId} {g : Nat → Option Nat} {ad am : Nat → Nat} {b o L : Nat} {xs : Nat → Int32} {i : Int} (C : jk_C p s m args meth c mb_Law_law "KnotReaderLaw" 9 jk_WA D jk_cl (jk_t3 cI cR cL) A ret) (hZ : jk_ZK Z sq) (hz : Z A s s.heap) (hcs : cells + 20 ≤ room_1.cells ∧ slots + 120 ≤ room_1.slots) (hX : va_X b L xs s s.heap) (hbl : b < s.heap.size) (hbA : ¬ A b) (hL : L ≤ 3072) (hi : 0 ≤ i ∧ i + 6 ≤ (L : Int)) {σ σ1 σ2 : jk_LS} {f : Nat → Int64} {r : Int} (hA : jk_MI l D jk_cl (jk_ty cI cR) Z mn_KR_outputByte (.code mn_KR_outputByte mb_KR_outputByte 2 (some .int) :: jk_WA) (jk_rm 1 21) [.ref (ad 0), jk_V (xs (i + 1).toNat).toInt] (LW cI cR g ad am σ) (LW cI cR g ad am σ1) r) (hB : jk_MI l D jk_cl (jk_ty cI cR) Z mn_Md_outputByte (.code mn_Md_outputByte mb_Md_outputByte 2 (some .int) :: jk_WA) (jk_rm 1 22) [.ref (am 0), jk_V (xs (i + 1).toNat).toInt] (LW cI cR g ad am σ1) (LW cI cR g ad am σ2) r) (kk : jk_J p l e room_1 s m args below meth c (cells + 20) (slots + 120) Q D jk_cl A 9 (LW cI cR g ad am σ2 ++ [(o, .inl (cL, 1, .inr (.inl f)))]) [(0, .ref b), (1, .ref (ad 0)), (2, .ref (am 0)), (3, .ref o), (4, jk_V i)] 2784 []) : jk_J p l e room_1 s m args below meth c (cells) (slots) Q D jk_cl A 9 (LW cI cR g ad am σ ++ [(o, .inl (cL, 1, .inr (.inl f)))]) [(0, .ref b), (1, .ref (ad 0)), (2, .ref (am 0)), (3, .ref o), (4, jk_V i)] 2702 [] := by
  have C2 := jk_Csub C [0, 1] rfl (tys' := jk_ty cI cR)
  refine jk_aload_n C rd_Law_law_2702 (k := 1) rfl ?_
  refine jk_aload_n C rd_Law_law_2703 (k := 0) rfl ?_
  refine jk_iload C rd_Law_law_2704 (k := 4) rfl ?_
  refine jk_iconst C rd_Law_law_2706 ?_
  refine jk_iadd C rd_Law_law_2707 ?_
  refine jk_sld C hX hbl hbA (by omega) (by omega) hL rd_Law_law_2708 ?_
  refine jk_callVi C2 hZ.1 hz hA tm_776 tm_777 tm_778 tm_1 tm_779 na_KR_outputByte ⟨Nat.le_of_ble_eq_true rfl, Nat.le_of_ble_eq_true rfl⟩ rfl (List.range 155) (lw_pl LW_len) nd155 LW_fst (lw_put LW_len LW_len) 0 10 (lw_hd LW_len LW_x _) rfl rfl (st := []) rfl (Nat.le_of_ble_eq_true rfl) rd_Law_law_2709 ?_ ⟨by omega, by omega⟩
  refine jk_aload_n C rd_Law_law_2712 (k := 2) rfl ?_
  refine jk_aload_n C rd_Law_law_2713 (k := 0) rfl ?_
  refine jk_iload C rd_Law_law_2714 (k := 4) rfl ?_
  refine jk_iconst C rd_Law_law_2716 ?_
  refine jk_iadd C rd_Law_law_2717 ?_
  refine jk_sld C hX hbl hbA (by omega) (by omega) hL rd_Law_law_2718 ?_
  refine jk_callVi C2 hZ.1 hz hB tm_1887 tm_1888 tm_1889 tm_15 tm_1890 na_Md_outputByte ⟨Nat.le_of_ble_eq_true rfl, Nat.le_of_ble_eq_true rfl⟩ rfl (List.range 155) (lw_pl LW_len) nd155 LW_fst (lw_put LW_len LW_len) 145 11 (lw_hd LW_len LW_m _) rfl rfl (st := [jk_V r]) rfl (Nat.le_of_ble_eq_true rfl) rd_Law_law_2719 ?_ ⟨by omega, by omega⟩
  refine jk_icmp_same (tgt := 2784) C rd_Law_law_2722 (by decide) ?_
  exact jk_widen (by omega) (by omega) kk

set_option maxHeartbeats 4000000 in
set_option maxRecDepth 20000 in
theorem lc_53 {p : Program} {l : Launch} {e : Env} {s : State} {m : MethodId} {args : Array Value} {below : List Frame} {meth : Method} {c : Code} {cells slots : Nat} {Q : State → Prop} {D : va_G} {A : Nat → Prop} {ret : Option FieldType} {Z : (Nat → Prop) → State → Heap → Prop} {sq : Nat → Nat} {cI cR cL : ClassId} {g : Nat → Option Nat} {ad am : Nat → Nat} {b o L : Nat} {xs : Nat → Int32} {i : Int} (C : jk_C p s m args meth c mb_Law_law "KnotReaderLaw" 9 jk_WA D jk_cl (jk_t3 cI cR cL) A ret) (hZ : jk_ZK Z sq) (hz : Z A s s.heap) (hcs : cells + 20 ≤ room_1.cells ∧ slots + 120 ≤ room_1.slots) (hX : va_X b L xs s s.heap) (hbl : b < s.heap.size) (hbA : ¬ A b) (hL : L ≤ 3072) (hi : 0 ≤ i ∧ i + 6 ≤ (L : Int)) {σ σ1 σ2 : jk_LS} {f : Nat → Int64} {r : Int} (hA : jk_MI l D jk_cl (jk_ty cI cR) Z mn_KR_saveState (.code mn_KR_saveState mb_KR_saveState 1 (some .int) :: jk_WA) (jk_rm 3 64) [.ref (ad 0)] (LW cI cR g ad am σ) (LW cI cR g ad am σ1) r) (hB : jk_MI l D jk_cl (jk_ty cI cR) Z mn_Md_saveState (.code mn_Md_saveState mb_Md_saveState 1 (some .int) :: jk_WA) (jk_rm 1 24) [.ref (am 0)] (LW cI cR g ad am σ1) (LW cI cR g ad am σ2) r) (kk : jk_J p l e room_1 s m args below meth c (cells + 20) (slots + 120) Q D jk_cl A 9 (LW cI cR g ad am σ2 ++ [(o, .inl (cL, 1, .inr (.inl f)))]) [(0, .ref b), (1, .ref (ad 0)), (2, .ref (am 0)), (3, .ref o), (4, jk_V i)] 2784 []) : jk_J p l e room_1 s m args below meth c (cells) (slots) Q D jk_cl A 9 (LW cI cR g ad am σ ++ [(o, .inl (cL, 1, .inr (.inl f)))]) [(0, .ref b), (1, .ref (ad 0)), (2, .ref (am 0)), (3, .ref o), (4, jk_V i)] 2727 [] := by
  have C2 := jk_Csub C [0, 1] rfl (tys' := jk_ty cI cR)
  refine jk_aload_n C rd_Law_law_2727 (k := 1) rfl ?_
  refine jk_callVi C2 hZ.1 hz hA tm_780 tm_781 tm_782 tm_1 tm_783 na_KR_saveState ⟨Nat.le_of_ble_eq_true rfl, Nat.le_of_ble_eq_true rfl⟩ rfl (List.range 155) (lw_pl LW_len) nd155 LW_fst (lw_put LW_len LW_len) 0 10 (lw_hd LW_len LW_x _) rfl rfl (st := []) rfl (Nat.le_of_ble_eq_true rfl) rd_Law_law_2728 ?_ ⟨by omega, by omega⟩
  refine jk_aload_n C rd_Law_law_2731 (k := 2) rfl ?_
  refine jk_callVi C2 hZ.1 hz hB tm_1891 tm_1892 tm_1893 tm_15 tm_1894 na_Md_saveState ⟨Nat.le_of_ble_eq_true rfl, Nat.le_of_ble_eq_true rfl⟩ rfl (List.range 155) (lw_pl LW_len) nd155 LW_fst (lw_put LW_len LW_len) 145 11 (lw_hd LW_len LW_m _) rfl rfl (st := [jk_V r]) rfl (Nat.le_of_ble_eq_true rfl) rd_Law_law_2732 ?_ ⟨by omega, by omega⟩
  refine jk_icmp_same (tgt := 2784) C rd_Law_law_2735 (by decide) ?_
  exact jk_widen (by omega) (by omega) kk

