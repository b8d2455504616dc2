set_option maxHeartbeats 4000000 in
set_option maxRecDepth 100000 in
def f_X9_init (N : Nat) (ad : Nat → Nat) (S : St) (V : Vt) (o : Nat) : Option (St × Vt) := cg (ad S.1 == S.2.2.2.2) (bd S.1 (fun q545 => bd (nwA S 11 7) (fun S => bd (zV V q545) (fun V547 => cg (ooB S o 9) (bd (stP S o 1 (q545 + 1)) (fun S => cg (ad S.1 == S.2.2.2.2) (bd S.1 (fun q549 => bd (nwA S 11 5715) (fun S => bd (zV V547 q549) (fun V551 => cg (ooB S o 9) (bd (stP S o 2 (q549 + 1)) (fun S => cg (ad S.1 == S.2.2.2.2) (bd S.1 (fun q553 => bd (nwA S 11 11430) (fun S => bd (zV V551 q553) (fun V555 => cg (ooB S o 9) (bd (stP S o 3 (q553 + 1)) (fun S => cg (ad S.1 == S.2.2.2.2) (bd S.1 (fun q557 => bd (nwA S 13 2) (fun S => bd (zV V555 q557) (fun V559 => cg (ooB S o 9) (bd (stP S o 4 (q557 + 1)) (fun S => cg (ad S.1 == S.2.2.2.2) (bd S.1 (fun q561 => bd (nwA S 11 64) (fun S => bd (zV V559 q561) (fun V563 => cg (ooB S o 9) (bd (stP S o 5 (q561 + 1)) (fun S => cg (ad S.1 == S.2.2.2.2) (bd S.1 (fun q565 => bd (nwA S 10 144) (fun S => bd (zV V563 q565) (fun V567 => cg (aaB S q565 10 144) (ck (0 : Int32) 144 (bd (sA V567 q565 (0 : Int32).toNatClampNeg (vp_nar .byte (108 : Int32))) (fun V570 => cg (aaB S q565 10 144) (ck (1 : Int32) 144 (bd (sA V570 q565 (1 : Int32).toNatClampNeg (vp_nar .byte (101 : Int32))) (fun V573 => cg (aaB S q565 10 144) (ck (2 : Int32) 144 (bd (sA V573 q565 (2 : Int32).toNatClampNeg (vp_nar .byte (97 : Int32))) (fun V576 => cg (aaB S q565 10 144) (ck (3 : Int32) 144 (bd (sA V576 q565 (3 : Int32).toNatClampNeg (vp_nar .byte (100 : Int32))) (fun V579 => cg (aaB S q565 10 144) (ck (4 : Int32) 144 (bd (sA V579 q565 (4 : Int32).toNatClampNeg (vp_nar .byte (115 : Int32))) (fun V582 => cg (aaB S q565 10 144) (ck (5 : Int32) 144 (bd (sA V582 q565 (5 : Int32).toNatClampNeg (vp_nar .byte (32 : Int32))) (fun V585 => cg (aaB S q565 10 144) (ck (6 : Int32) 144 (bd (sA V585 q565 (6 : Int32).toNatClampNeg (vp_nar .byte (116 : Int32))) (fun V588 => cg (aaB S q565 10 144) (ck (7 : Int32) 144 (bd (sA V588 q565 (7 : Int32).toNatClampNeg (vp_nar .byte (97 : Int32))) (fun V591 => cg (aaB S q565 10 144) (ck (8 : Int32) 144 (bd (sA V591 q565 (8 : Int32).toNatClampNeg (vp_nar .byte (107 : Int32))) (fun V594 => cg (aaB S q565 10 144) (ck (9 : Int32) 144 (bd (sA V594 q565 (9 : Int32).toNatClampNeg (vp_nar .byte (101 : Int32))) (fun V597 => cg (aaB S q565 10 144) (ck (10 : Int32) 144 (bd (sA V597 q565 (10 : Int32).toNatClampNeg (vp_nar .byte (115 : Int32))) (fun V600 => cg (aaB S q565 10 144) (ck (11 : Int32) 144 (bd (sA V600 q565 (11 : Int32).toNatClampNeg (vp_nar .byte (32 : Int32))) (fun V603 => cg (aaB S q565 10 144) (ck (12 : Int32) 144 (bd (sA V603 q565 (12 : Int32).toNatClampNeg (vp_nar .byte (98 : Int32))) (fun V606 => cg (aaB S q565 10 144) (ck (13 : Int32) 144 (bd (sA V606 q565 (13 : Int32).toNatClampNeg (vp_nar .byte (105 : Int32))) (fun V609 => cg (aaB S q565 10 144) (ck (14 : Int32) 144 (bd (sA V609 q565 (14 : Int32).toNatClampNeg (vp_nar .byte (116 : Int32))) (fun V612 => cg (aaB S q565 10 144) (ck (15 : Int32) 144 (bd (sA V612 q565 (15 : Int32).toNatClampNeg (vp_nar .byte (101 : Int32))) (fun V615 => cg (aaB S q565 10 144) (ck (16 : Int32) 144 (bd (sA V615 q565 (16 : Int32).toNatClampNeg (vp_nar .byte (115 : Int32))) (fun V618 => cg (aaB S q565 10 144) (ck (17 : Int32) 144 (bd (sA V618 q565 (17 : Int32).toNatClampNeg (vp_nar .byte (32 : Int32))) (fun V621 => cg (aaB S q565 10 144) (ck (18 : Int32) 144 (bd (sA V621 q565 (18 : Int32).toNatClampNeg (vp_nar .byte (98 : Int32))) (fun V624 => cg (aaB S q565 10 144) (ck (19 : Int32) 144 (bd (sA V624 q565 (19 : Int32).toNatClampNeg (vp_nar .byte (97 : Int32))) (fun V627 => cg (aaB S q565 10 144) (ck (20 : Int32) 144 (bd (sA V627 q565 (20 : Int32).toNatClampNeg (vp_nar .byte (114 : Int32))) (fun V630 => cg (aaB S q565 10 144) (ck (21 : Int32) 144 (bd (sA V630 q565 (21 : Int32).toNatClampNeg (vp_nar .byte (115 : Int32))) (fun V633 => cg (aaB S q565 10 144) (ck (22 : Int32) 144 (bd (sA V633 q565 (22 : Int32).toNatClampNeg (vp_nar .byte (32 : Int32))) (fun V636 => cg (aaB S q565 10 144) (ck (23 : Int32) 144 (bd (sA V636 q565 (23 : Int32).toNatClampNeg (vp_nar .byte (105 : Int32))) (fun V639 => cg (aaB S q565 10 144) (ck (24 : Int32) 144 (bd (sA V639 q565 (24 : Int32).toNatClampNeg (vp_nar .byte (102 : Int32))) (fun V642 => cg (aaB S q565 10 144) (ck (25 : Int32) 144 (bd (sA V642 q565 (25 : Int32).toNatClampNeg (vp_nar .byte (32 : Int32))) (fun V645 => cg (aaB S q565 10 144) (ck (26 : Int32) 144 (bd (sA V645 q565 (26 : Int32).toNatClampNeg (vp_nar .byte (111 : Int32))) (fun V648 => cg (aaB S q565 10 144) (ck (27 : Int32) 144 (bd (sA V648 q565 (27 : Int32).toNatClampNeg (vp_nar .byte (114 : Int32))) (fun V651 => cg (aaB S q565 10 144) (ck (28 : Int32) 144 (bd (sA V651 q565 (28 : Int32).toNatClampNeg (vp_nar .byte (32 : Int32))) (fun V654 => cg (aaB S q565 10 144) (ck (29 : Int32) 144 (bd (sA V654 q565 (29 : Int32).toNatClampNeg (vp_nar .byte (97 : Int32))) (fun V657 => cg (aaB S q565 10 144) (ck (30 : Int32) 144 (bd (sA V657 q565 (30 : Int32).toNatClampNeg (vp_nar .byte (110 : Int32))) (fun V660 => cg (aaB S q565 10 144) (ck (31 : Int32) 144 (bd (sA V660 q565 (31 : Int32).toNatClampNeg (vp_nar .byte (100 : Int32))) (fun V663 => cg (aaB S q565 10 144) (ck (32 : Int32) 144 (bd (sA V663 q565 (32 : Int32).toNatClampNeg (vp_nar .byte (32 : Int32))) (fun V666 => cg (aaB S q565 10 144) (ck (33 : Int32) 144 (bd (sA V666 q565 (33 : Int32).toNatClampNeg (vp_nar .byte (110 : Int32))) (fun V669 => cg (aaB S q565 10 144) (ck (34 : Int32) 144 (bd (sA V669 q565 (34 : Int32).toNatClampNeg (vp_nar .byte (111 : Int32))) (fun V672 => cg (aaB S q565 10 144) (ck (35 : Int32) 144 (bd (sA V672 q565 (35 : Int32).toNatClampNeg (vp_nar .byte (116 : Int32))) (fun V675 => cg (aaB S q565 10 144) (ck (36 : Int32) 144 (bd (sA V675 q565 (36 : Int32).toNatClampNeg (vp_nar .byte (32 : Int32))) (fun V678 => cg (aaB S q565 10 144) (ck (37 : Int32) 144 (bd (sA V678 q565 (37 : Int32).toNatClampNeg (vp_nar .byte (99 : Int32))) (fun V681 => cg (aaB S q565 10 144) (ck (38 : Int32) 144 (bd (sA V681 q565 (38 : Int32).toNatClampNeg (vp_nar .byte (101 : Int32))) (fun V684 => cg (aaB S q565 10 144) (ck (39 : Int32) 144 (bd (sA V684 q565 (39 : Int32).toNatClampNeg (vp_nar .byte (108 : Int32))) (fun V687 => cg (aaB S q565 10 144) (ck (40 : Int32) 144 (bd (sA V687 q565 (40 : Int32).toNatClampNeg (vp_nar .byte (108 : Int32))) (fun V690 => cg (aaB S q565 10 144) (ck (41 : Int32) 144 (bd (sA V690 q565 (41 : Int32).toNatClampNeg (vp_nar .byte (32 : Int32))) (fun V693 => cg (aaB S q565 10 144) (ck (42 : Int32) 144 (bd (sA V693 q565 (42 : Int32).toNatClampNeg (vp_nar .byte (114 : Int32))) (fun V696 => cg (aaB S q565 10 144) (ck (43 : Int32) 144 (bd (sA V696 q565 (43 : Int32).toNatClampNeg (vp_nar .byte (111 : Int32))) (fun V699 => cg (aaB S q565 10 144) (ck (44 : Int32) 144 (bd (sA V699 q565 (44 : Int32).toNatClampNeg (vp_nar .byte (119 : Int32))) (fun V702 => cg (aaB S q565 10 144) (ck (45 : Int32) 144 (bd (sA V702 q565 (45 : Int32).toNatClampNeg (vp_nar .byte (32 : Int32))) (fun V705 => cg (aaB S q565 10 144) (ck (46 : Int32) 144 (bd (sA V705 q565 (46 : Int32).toNatClampNeg (vp_nar .byte (99 : Int32))) (fun V708 => cg (aaB S q565 10 144) (ck (47 : Int32) 144 (bd (sA V708 q565 (47 : Int32).toNatClampNeg (vp_nar .byte (111 : Int32))) (fun V711 => cg (aaB S q565 10 144) (ck (48 : Int32) 144 (bd (sA V711 q565 (48 : Int32).toNatClampNeg (vp_nar .byte (108 : Int32))) (fun V714 => cg (aaB S q565 10 144) (ck (49 : Int32) 144 (bd (sA V714 q565 (49 : Int32).toNatClampNeg (vp_nar .byte (117 : Int32))) (fun V717 => cg (aaB S q565 10 144) (ck (50 : Int32) 144 (bd (sA V717 q565 (50 : Int32).toNatClampNeg (vp_nar .byte (109 : Int32))) (fun V720 => cg (aaB S q565 10 144) (ck (51 : Int32) 144 (bd (sA V720 q565 (51 : Int32).toNatClampNeg (vp_nar .byte (110 : Int32))) (fun V723 => cg (aaB S q565 10 144) (ck (52 : Int32) 144 (bd (sA V723 q565 (52 : Int32).toNatClampNeg (vp_nar .byte (32 : Int32))) (fun V726 => cg (aaB S q565 10 144) (ck (53 : Int32) 144 (bd (sA V726 q565 (53 : Int32).toNatClampNeg (vp_nar .byte (99 : Int32))) (fun V729 => cg (aaB S q565 10 144) (ck (54 : Int32) 144 (bd (sA V729 q565 (54 : Int32).toNatClampNeg (vp_nar .byte (108 : Int32))) (fun V732 => cg (aaB S q565 10 144) (ck (55 : Int32) 144 (bd (sA V732 q565 (55 : Int32).toNatClampNeg (vp_nar .byte (101 : Int32))) (fun V735 => cg (aaB S q565 10 144) (ck (56 : Int32) 144 (bd (sA V735 q565 (56 : Int32).toNatClampNeg (vp_nar .byte (114 : Int32))) (fun V738 => cg (aaB S q565 10 144) (ck (57 : Int32) 144 (bd (sA V738 q565 (57 : Int32).toNatClampNeg (vp_nar .byte (107 : Int32))) (fun V741 => cg (aaB S q565 10 144) (ck (58 : Int32) 144 (bd (sA V741 q565 (58 : Int32).toNatClampNeg (vp_nar .byte (32 : Int32))) (fun V744 => cg (aaB S q565 10 144) (ck (59 : Int32) 144 (bd (sA V744 q565 (59 : Int32).toNatClampNeg (vp_nar .byte (107 : Int32))) (fun V747 => cg (aaB S q565 10 144) (ck (60 : Int32) 144 (bd (sA V747 q565 (60 : Int32).toNatClampNeg (vp_nar .byte (101 : Int32))) (fun V750 => cg (aaB S q565 10 144) (ck (61 : Int32) 144 (bd (sA V750 q565 (61 : Int32).toNatClampNeg (vp_nar .byte (101 : Int32))) (fun V753 => cg (aaB S q565 10 144) (ck (62 : Int32) 144 (bd (sA V753 q565 (62 : Int32).toNatClampNeg (vp_nar .byte (110 : Int32))) (fun V756 => cg (aaB S q565 10 144) (ck (63 : Int32) 144 (bd (sA V756 q565 (63 : Int32).toNatClampNeg (vp_nar .byte (32 : Int32))) (fun V759 => cg (aaB S q565 10 144) (ck (64 : Int32) 144 (bd (sA V759 q565 (64 : Int32).toNatClampNeg (vp_nar .byte (109 : Int32))) (fun V762 => cg (aaB S q565 10 144) (ck (65 : Int32) 144 (bd (sA V762 q565 (65 : Int32).toNatClampNeg (vp_nar .byte (111 : Int32))) (fun V765 => cg (aaB S q565 10 144) (ck (66 : Int32) 144 (bd (sA V765 q565 (66 : Int32).toNatClampNeg (vp_nar .byte (111 : Int32))) (fun V768 => cg (aaB S q565 10 144) (ck (67 : Int32) 144 (bd (sA V768 q565 (67 : Int32).toNatClampNeg (vp_nar .byte (100 : Int32))) (fun V771 => cg (aaB S q565 10 144) (ck (68 : Int32) 144 (bd (sA V771 q565 (68 : Int32).toNatClampNeg (vp_nar .byte (32 : Int32))) (fun V774 => cg (aaB S q565 10 144) (ck (69 : Int32) 144 (bd (sA V774 q565 (69 : Int32).toNatClampNeg (vp_nar .byte (101 : Int32))) (fun V777 => cg (aaB S q565 10 144) (ck (70 : Int32) 144 (bd (sA V777 q565 (70 : Int32).toNatClampNeg (vp_nar .byte (110 : Int32))) (fun V780 => cg (aaB S q565 10 144) (ck (71 : Int32) 144 (bd (sA V780 q565 (71 : Int32).toNatClampNeg (vp_nar .byte (116 : Int32))) (fun V783 => cg (aaB S q565 10 144) (ck (72 : Int32) 144 (bd (sA V783 q565 (72 : Int32).toNatClampNeg (vp_nar .byte (114 : Int32))) (fun V786 => cg (aaB S q565 10 144) (ck (73 : Int32) 144 (bd (sA V786 q565 (73 : Int32).toNatClampNeg (vp_nar .byte (121 : Int32))) (fun V789 => cg (aaB S q565 10 144) (ck (74 : Int32) 144 (bd (sA V789 q565 (74 : Int32).toNatClampNeg (vp_nar .byte (32 : Int32))) (fun V792 => cg (aaB S q565 10 144) (ck (75 : Int32) 144 (bd (sA V792 q565 (75 : Int32).toNatClampNeg (vp_nar .byte (111 : Int32))) (fun V795 => cg (aaB S q565 10 144) (ck (76 : Int32) 144 (bd (sA V795 q565 (76 : Int32).toNatClampNeg (vp_nar .byte (102 : Int32))) (fun V798 => cg (aaB S q565 10 144) (ck (77 : Int32) 144 (bd (sA V798 q565 (77 : Int32).toNatClampNeg (vp_nar .byte (102 : Int32))) (fun V801 => cg (aaB S q565 10 144) (ck (78 : Int32) 144 (bd (sA V801 q565 (78 : Int32).toNatClampNeg (vp_nar .byte (32 : Int32))) (fun V804 => cg (aaB S q565 10 144) (ck (79 : Int32) 144 (bd (sA V804 q565 (79 : Int32).toNatClampNeg (vp_nar .byte (97 : Int32))) (fun V807 => cg (aaB S q565 10 144) (ck (80 : Int32) 144 (bd (sA V807 q565 (80 : Int32).toNatClampNeg (vp_nar .byte (99 : Int32))) (fun V810 => cg (aaB S q565 10 144) (ck (81 : Int32) 144 (bd (sA V810 q565 (81 : Int32).toNatClampNeg (vp_nar .byte (114 : Int32))) (fun V813 => cg (aaB S q565 10 144) (ck (82 : Int32) 144 (bd (sA V813 q565 (82 : Int32).toNatClampNeg (vp_nar .byte (111 : Int32))) (fun V816 => cg (aaB S q565 10 144) (ck (83 : Int32) 144 (bd (sA V816 q565 (83 : Int32).toNatClampNeg (vp_nar .byte (115 : Int32))) (fun V819 => cg (aaB S q565 10 144) (ck (84 : Int32) 144 (bd (sA V819 q565 (84 : Int32).toNatClampNeg (vp_nar .byte (115 : Int32))) (fun V822 => cg (aaB S q565 10 144) (ck (85 : Int32) 144 (bd (sA V822 q565 (85 : Int32).toNatClampNeg (vp_nar .byte (32 : Int32))) (fun V825 => cg (aaB S q565 10 144) (ck (86 : Int32) 144 (bd (sA V825 q565 (86 : Int32).toNatClampNeg (vp_nar .byte (100 : Int32))) (fun V828 => cg (aaB S q565 10 144) (ck (87 : Int32) 144 (bd (sA V828 q565 (87 : Int32).toNatClampNeg (vp_nar .byte (97 : Int32))) (fun V831 => cg (aaB S q565 10 144) (ck (88 : Int32) 144 (bd (sA V831 q565 (88 : Int32).toNatClampNeg (vp_nar .byte (121 : Int32))) (fun V834 => cg (aaB S q565 10 144) (ck (89 : Int32) 144 (bd (sA V834 q565 (89 : Int32).toNatClampNeg (vp_nar .byte (32 : Int32))) (fun V837 => cg (aaB S q565 10 144) (ck (90 : Int32) 144 (bd (sA V837 q565 (90 : Int32).toNatClampNeg (vp_nar .byte (100 : Int32))) (fun V840 => cg (aaB S q565 10 144) (ck (91 : Int32) 144 (bd (sA V840 q565 (91 : Int32).toNatClampNeg (vp_nar .byte (111 : Int32))) (fun V843 => cg (aaB S q565 10 144) (ck (92 : Int32) 144 (bd (sA V843 q565 (92 : Int32).toNatClampNeg (vp_nar .byte (110 : Int32))) (fun V846 => cg (aaB S q565 10 144) (ck (93 : Int32) 144 (bd (sA V846 q565 (93 : Int32).toNatClampNeg (vp_nar .byte (101 : Int32))) (fun V849 => cg (aaB S q565 10 144) (ck (94 : Int32) 144 (bd (sA V849 q565 (94 : Int32).toNatClampNeg (vp_nar .byte (32 : Int32))) (fun V852 => cg (aaB S q565 10 144) (ck (95 : Int32) 144 (bd (sA V852 q565 (95 : Int32).toNatClampNeg (vp_nar .byte (108 : Int32))) (fun V855 => cg (aaB S q565 10 144) (ck (96 : Int32) 144 (bd (sA V855 q565 (96 : Int32).toNatClampNeg (vp_nar .byte (97 : Int32))) (fun V858 => cg (aaB S q565 10 144) (ck (97 : Int32) 144 (bd (sA V858 q565 (97 : Int32).toNatClampNeg (vp_nar .byte (116 : Int32))) (fun V861 => cg (aaB S q565 10 144) (ck (98 : Int32) 144 (bd (sA V861 q565 (98 : Int32).toNatClampNeg (vp_nar .byte (101 : Int32))) (fun V864 => cg (aaB S q565 10 144) (ck (99 : Int32) 144 (bd (sA V864 q565 (99 : Int32).toNatClampNeg (vp_nar .byte (115 : Int32))) (fun V867 => cg (aaB S q565 10 144) (ck (100 : Int32) 144 (bd (sA V867 q565 (100 : Int32).toNatClampNeg (vp_nar .byte (116 : Int32))) (fun V870 => cg (aaB S q565 10 144) (ck (101 : Int32) 144 (bd (sA V870 q565 (101 : Int32).toNatClampNeg (vp_nar .byte (32 : Int32))) (fun V873 => cg (aaB S q565 10 144) (ck (102 : Int32) 144 (bd (sA V873 q565 (102 : Int32).toNatClampNeg (vp_nar .byte (104 : Int32))) (fun V876 => cg (aaB S q565 10 144) (ck (103 : Int32) 144 (bd (sA V876 q565 (103 : Int32).toNatClampNeg (vp_nar .byte (97 : Int32))) (fun V879 => cg (aaB S q565 10 144) (ck (104 : Int32) 144 (bd (sA V879 q565 (104 : Int32).toNatClampNeg (vp_nar .byte (110 : Int32))) (fun V882 => cg (aaB S q565 10 144) (ck (105 : Int32) 144 (bd (sA V882 q565 (105 : Int32).toNatClampNeg (vp_nar .byte (100 : Int32))) (fun V885 => cg (aaB S q565 10 144) (ck (106 : Int32) 144 (bd (sA V885 q565 (106 : Int32).toNatClampNeg (vp_nar .byte (32 : Int32))) (fun V888 => cg (aaB S q565 10 144) (ck (107 : Int32) 144 (bd (sA V888 q565 (107 : Int32).toNatClampNeg (vp_nar .byte (116 : Int32))) (fun V891 => cg (aaB S q565 10 144) (ck (108 : Int32) 144 (bd (sA V891 q565 (108 : Int32).toNatClampNeg (vp_nar .byte (97 : Int32))) (fun V894 => cg (aaB S q565 10 144) (ck (109 : Int32) 144 (bd (sA V894 q565 (109 : Int32).toNatClampNeg (vp_nar .byte (107 : Int32))) (fun V897 => cg (aaB S q565 10 144) (ck (110 : Int32) 144 (bd (sA V897 q565 (110 : Int32).toNatClampNeg (vp_nar .byte (101 : Int32))) (fun V900 => cg (aaB S q565 10 144) (ck (111 : Int32) 144 (bd (sA V900 q565 (111 : Int32).toNatClampNeg (vp_nar .byte (32 : Int32))) (fun V903 => cg (aaB S q565 10 144) (ck (112 : Int32) 144 (bd (sA V903 q565 (112 : Int32).toNatClampNeg (vp_nar .byte (98 : Int32))) (fun V906 => cg (aaB S q565 10 144) (ck (113 : Int32) 144 (bd (sA V906 q565 (113 : Int32).toNatClampNeg (vp_nar .byte (121 : Int32))) (fun V909 => cg (aaB S q565 10 144) (ck (114 : Int32) 144 (bd (sA V909 q565 (114 : Int32).toNatClampNeg (vp_nar .byte (32 : Int32))) (fun V912 => cg (aaB S q565 10 144) (ck (115 : Int32) 144 (bd (sA V912 q565 (115 : Int32).toNatClampNeg (vp_nar .byte (115 : Int32))) (fun V915 => cg (aaB S q565 10 144) (ck (116 : Int32) 144 (bd (sA V915 q565 (116 : Int32).toNatClampNeg (vp_nar .byte (104 : Int32))) (fun V918 => cg (aaB S q565 10 144) (ck (117 : Int32) 144 (bd (sA V918 q565 (117 : Int32).toNatClampNeg (vp_nar .byte (105 : Int32))) (fun V921 => cg (aaB S q565 10 144) (ck (118 : Int32) 144 (bd (sA V921 q565 (118 : Int32).toNatClampNeg (vp_nar .byte (102 : Int32))) (fun V924 => cg (aaB S q565 10 144) (ck (119 : Int32) 144 (bd (sA V924 q565 (119 : Int32).toNatClampNeg (vp_nar .byte (116 : Int32))) (fun V927 => cg (aaB S q565 10 144) (ck (120 : Int32) 144 (bd (sA V927 q565 (120 : Int32).toNatClampNeg (vp_nar .byte (32 : Int32))) (fun V930 => cg (aaB S q565 10 144) (ck (121 : Int32) 144 (bd (sA V930 q565 (121 : Int32).toNatClampNeg (vp_nar .byte (116 : Int32))) (fun V933 => cg (aaB S q565 10 144) (ck (122 : Int32) 144 (bd (sA V933 q565 (122 : Int32).toNatClampNeg (vp_nar .byte (111 : Int32))) (fun V936 => cg (aaB S q565 10 144) (ck (123 : Int32) 144 (bd (sA V936 q565 (123 : Int32).toNatClampNeg (vp_nar .byte (32 : Int32))) (fun V939 => cg (aaB S q565 10 144) (ck (124 : Int32) 144 (bd (sA V939 q565 (124 : Int32).toNatClampNeg (vp_nar .byte (111 : Int32))) (fun V942 => cg (aaB S q565 10 144) (ck (125 : Int32) 144 (bd (sA V942 q565 (125 : Int32).toNatClampNeg (vp_nar .byte (102 : Int32))) (fun V945 => cg (aaB S q565 10 144) (ck (126 : Int32) 144 (bd (sA V945 q565 (126 : Int32).toNatClampNeg (vp_nar .byte (32 : Int32))) (fun V948 => cg (aaB S q565 10 144) (ck (127 : Int32) 144 (bd (sA V948 q565 (127 : Int32).toNatClampNeg (vp_nar .byte (102 : Int32))) (fun V951 => cg (aaB S q565 10 144) (ck (128 : Int32) 144 (bd (sA V951 q565 (128 : Int32).toNatClampNeg (vp_nar .byte (101 : Int32))) (fun V954 => cg (aaB S q565 10 144) (ck (129 : Int32) 144 (bd (sA V954 q565 (129 : Int32).toNatClampNeg (vp_nar .byte (110 : Int32))) (fun V957 => cg (aaB S q565 10 144) (ck (130 : Int32) 144 (bd (sA V957 q565 (130 : Int32).toNatClampNeg (vp_nar .byte (99 : Int32))) (fun V960 => cg (aaB S q565 10 144) (ck (131 : Int32) 144 (bd (sA V960 q565 (131 : Int32).toNatClampNeg (vp_nar .byte (101 : Int32))) (fun V963 => cg (aaB S q565 10 144) (ck (132 : Int32) 144 (bd (sA V963 q565 (132 : Int32).toNatClampNeg (vp_nar .byte (32 : Int32))) (fun V966 => cg (aaB S q565 10 144) (ck (133 : Int32) 144 (bd (sA V966 q565 (133 : Int32).toNatClampNeg (vp_nar .byte (112 : Int32))) (fun V969 => cg (aaB S q565 10 144) (ck (134 : Int32) 144 (bd (sA V969 q565 (134 : Int32).toNatClampNeg (vp_nar .byte (97 : Int32))) (fun V972 => cg (aaB S q565 10 144) (ck (135 : Int32) 144 (bd (sA V972 q565 (135 : Int32).toNatClampNeg (vp_nar .byte (115 : Int32))) (fun V975 => cg (aaB S q565 10 144) (ck (136 : Int32) 144 (bd (sA V975 q565 (136 : Int32).toNatClampNeg (vp_nar .byte (115 : Int32))) (fun V978 => cg (aaB S q565 10 144) (ck (137 : Int32) 144 (bd (sA V978 q565 (137 : Int32).toNatClampNeg (vp_nar .byte (32 : Int32))) (fun V981 => cg (aaB S q565 10 144) (ck (138 : Int32) 144 (bd (sA V981 q565 (138 : Int32).toNatClampNeg (vp_nar .byte (116 : Int32))) (fun V984 => cg (aaB S q565 10 144) (ck (139 : Int32) 144 (bd (sA V984 q565 (139 : Int32).toNatClampNeg (vp_nar .byte (105 : Int32))) (fun V987 => cg (aaB S q565 10 144) (ck (140 : Int32) 144 (bd (sA V987 q565 (140 : Int32).toNatClampNeg (vp_nar .byte (109 : Int32))) (fun V990 => cg (aaB S q565 10 144) (ck (141 : Int32) 144 (bd (sA V990 q565 (141 : Int32).toNatClampNeg (vp_nar .byte (101 : Int32))) (fun V993 => cg (aaB S q565 10 144) (ck (142 : Int32) 144 (bd (sA V993 q565 (142 : Int32).toNatClampNeg (vp_nar .byte (115 : Int32))) (fun V996 => cg (aaB S q565 10 144) (ck (143 : Int32) 144 (bd (sA V996 q565 (143 : Int32).toNatClampNeg (vp_nar .byte (32 : Int32))) (fun V999 => cg (ooB S o 9) (bd (stP S o 7 (q565 + 1)) (fun S => cg (ad S.1 == S.2.2.2.2) (bd S.1 (fun q1001 => bd (nwA S 10 400) (fun S => bd (zV V999 q1001) (fun V1003 => cg (ooB S o 9) (bd (stP S o 11 (q1001 + 1)) (fun S => cg (ad S.1 == S.2.2.2.2) (bd S.1 (fun q1005 => bd (nwA S 11 5) (fun S => bd (zV V1003 q1005) (fun V1007 => cg (ooB S o 9) (bd (stP S o 12 (q1005 + 1)) (fun S => cg (ooB S o 9) (bd (sF V1007 o 14 (-1 : Int32)) (fun V1010 => cg (ad S.1 == S.2.2.2.2) (bd S.1 (fun q1011 => bd (nwA S 11 401) (fun S => bd (zV V1010 q1011) (fun V1013 => cg (ooB S o 9) (bd (stP S o 15 (q1011 + 1)) (fun S => cg (ad S.1 == S.2.2.2.2) (bd S.1 (fun q1015 => bd (nwA S 11 401) (fun S => bd (zV V1013 q1015) (fun V1017 => cg (ooB S o 9) (bd (stP S o 16 (q1015 + 1)) (fun S => cg (ad S.1 == S.2.2.2.2) (bd S.1 (fun q1019 => bd (nwA S 11 401) (fun S => bd (zV V1017 q1019) (fun V1021 => cg (ooB S o 9) (bd (stP S o 17 (q1019 + 1)) (fun S => cg (ad S.1 == S.2.2.2.2) (bd S.1 (fun q1023 => bd (nwA S 11 10) (fun S => bd (zV V1021 q1023) (fun V1025 => cg (ooB S o 9) (bd (stP S o 26 (q1023 + 1)) (fun S => cg (ad S.1 == S.2.2.2.2) (bd S.1 (fun q1027 => bd (nwA S 11 528) (fun S => bd (zV V1025 q1027) (fun V1029 => cg (ooB S o 9) (bd (stP S o 29 (q1027 + 1)) (fun S => cg (ad S.1 == S.2.2.2.2) (bd S.1 (fun q1031 => bd (nwA S 11 528) (fun S => bd (zV V1029 q1031) (fun V1033 => cg (ooB S o 9) (bd (stP S o 30 (q1031 + 1)) (fun S => cg (ad S.1 == S.2.2.2.2) (bd S.1 (fun q1035 => bd (nwA S 11 10) (fun S => bd (zV V1033 q1035) (fun V1037 => cg (ooB S o 9) (bd (stP S o 32 (q1035 + 1)) (fun S => cg (ad S.1 == S.2.2.2.2) (bd S.1 (fun q1039 => bd (nwA S 11 1024) (fun S => bd (zV V1037 q1039) (fun V1041 => cg (ooB S o 9) (bd (stP S o 33 (q1039 + 1)) (fun S => cg (ad S.1 == S.2.2.2.2) (bd S.1 (fun q1043 => bd (nwA S 11 1024) (fun S => bd (zV V1041 q1043) (fun V1045 => cg (ooB S o 9) (bd (stP S o 34 (q1043 + 1)) (fun S => cg (ad S.1 == S.2.2.2.2) (bd S.1 (fun q1047 => bd (nwA S 11 26) (fun S => bd (zV V1045 q1047) (fun V1049 => cg (ooB S o 9) (bd (stP S o 35 (q1047 + 1)) (fun S => cg (ad S.1 == S.2.2.2.2) (bd S.1 (fun q1051 => bd (nwA S 11 150) (fun S => bd (zV V1049 q1051) (fun V1053 => cg (ooB S o 9) (bd (stP S o 36 (q1051 + 1)) (fun S => cg (ad S.1 == S.2.2.2.2) (bd S.1 (fun q1055 => bd (nwA S 11 26) (fun S => bd (zV V1053 q1055) (fun V1057 => cg (ooB S o 9) (bd (stP S o 37 (q1055 + 1)) (fun S => cg (ad S.1 == S.2.2.2.2) (bd S.1 (fun q1059 => bd (nwA S 11 32) (fun S => bd (zV V1057 q1059) (fun V1061 => cg (ooB S o 9) (bd (stP S o 38 (q1059 + 1)) (fun S => cg (ad S.1 == S.2.2.2.2) (bd S.1 (fun q1063 => bd (nwA S 12 21) (fun S => bd (zV V1061 q1063) (fun V1065 => cg (ooB S o 9) (bd (stP S o 39 (q1063 + 1)) (fun S => cg (ooB S o 9) (bd (sF V1065 o 40 (-1 : Int32)) (fun V1068 => cg (ad S.1 == S.2.2.2.2) (bd S.1 (fun q1069 => bd (nwA S 12 3) (fun S => bd (zV V1068 q1069) (fun V1071 => cg (ooB S o 9) (bd (stP S o 46 (q1069 + 1)) (fun S => cg (ad S.1 == S.2.2.2.2) (bd S.1 (fun q1073 => bd (nwA S 11 32) (fun S => bd (zV V1071 q1073) (fun V1075 => cg (ooB S o 9) (bd (stP S o 47 (q1073 + 1)) (fun S => cg (ooB S o 9) (bd (sF V1075 o 48 (-1 : Int32)) (fun V1078 => cg (ooB S o 9) (cg (S.2.2.2.1 o 2 == q549 + 1) (cg (aaB S q549 11 5715) (ck (101 : Int32) 5715 (bd (sA V1078 q549 (101 : Int32).toNatClampNeg (1 : Int32)) (fun V1083 => cg (ooB S o 9) (cg (S.2.2.2.1 o 2 == q549 + 1) (cg (aaB S q549 11 5715) (ck (107 : Int32) 5715 (bd (sA V1083 q549 (107 : Int32).toNatClampNeg (-1 : Int32)) (fun V1088 => some (S, V1088)))))))))))))))))))))))))))))))))))))))))))))))))))))))))))))))))))))))))))))))))))))))))))))))))))))))))))))))))))))))))))))))))))))))))))))))))))))))))))))))))))))))))))))))))))))))))))))))))))))))))))))))))))))))))))))))))))))))))))))))))))))))))))))))))))))))))))))))))))))))))))))))))))))))))))))))))))))))))))))))))))))))))))))))))))))))))))))))))))))))))))))))))))))))))))))))))))))))))))))))))))))))))))))))))))))))))))))))))))))))))))))))))))))))))))))))))))))))))))))))))))))))))))))))))))))))))))))))))))))))))))))))))))))))))))))))))))))))))))))))))))))))))))))))))))))))))))))))))
set_option maxHeartbeats 4000000 in
set_option maxRecDepth 100000 in
theorem c_X9_init (l : Launch) (D : va_G) (cy : Nat → ClassId) (ad : Nat → Nat) (A : Nat → Prop) (aK aV : Nat → Nat) (C0 : Cx ad A (KX A aK aV)) (N : Nat) (S : St) (V : Vt) (o : Nat) (S' : St) (V' : Vt) (h : f_X9_init N ad S V o = some (S', V')) : Met l yX9_init (mw yX9_init cX9_init 1 none) { frames := 1, cells := 24, slots := 22384, locals := 64 } (PreM D cy ad (KX A aK aV) S V [.ref (ad o)]) (QV D cy ad A S' V') 24 22384 A := by
  refine ct_goK C0 (own := RX9) rfl (by decide) rfl ?_
  intro p e s m below meth c ls H locs hKc X hr hlocks hnm hl w
  have hx := X.1.1
  have hb := X.1.2.1
  have hown := X.2.1
  have hts := X.2.2.1
  have hl : lv_has ls 1 [(0, .ref (ad o))] := hl
  rw [f_X9_init] at h
  refine lv_aload_n hx hb dX9_init_0 rfl (lv_at hl 0 rfl) ?_
  refine m_oi (rest := []) X hl ml_X9_22 (Nat.le_of_ble_eq_true rfl) (Nat.le_of_ble_eq_true rfl) dX9_init_1 ?_
  refine lv_aload_n hx hb dX9_init_4 rfl (lv_at hl 0 rfl) ?_
  refine lv_bipush (v := 7) hx hb dX9_init_5 (by decide) ?_
  obtain ⟨g546, h⟩ := cgi h
  have g546 := beq_iff_eq.mp g546
  obtain ⟨q545, eq545⟩ : ∃ y : Nat, y = S.1 := ⟨_, rfl⟩
  replace h := bdi h _ eq545
  refine m_newa (N' := 7) X w g546 (atype := .int) rfl 11 1 rfl na_int rfl nv_int ac_int (by decide) (by decide) (Nat.le_of_ble_eq_true rfl) (Nat.le_of_ble_eq_true rfl) (Nat.le_of_ble_eq_true rfl) dX9_init_7 (fun S V547 H locs eS eV547 w => ?_)
  rw [← eq545] at eV547 ⊢
  replace h := bdi h _ eS
  replace h := bdi h _ eV547
  refine W.widen (k := 1) (n := 7) (Nat.le_of_ble_eq_true rfl) (Nat.le_of_ble_eq_true rfl) ?_
  obtain ⟨g548, h⟩ := cgi h
  have g548 := ooB_of g548
  refine m_putR X w o g548.1 g548.2 ci9 1 (by decide) rfl rfl rfl rfl hnm rfl rfl fl_X9_7 dX9_init_9 (fun S H locs eS w => ?_)
  replace h := bdi h _ eS
  refine lv_aload_n hx hb dX9_init_12 rfl (lv_at hl 0 rfl) ?_
  refine lv_sipush (v := 5715) hx hb dX9_init_13 (by decide) ?_
  obtain ⟨g550, h⟩ := cgi h
  have g550 := beq_iff_eq.mp g550
  obtain ⟨q549, eq549⟩ : ∃ y : Nat, y = S.1 := ⟨_, rfl⟩
  replace h := bdi h _ eq549
  refine m_newa (N' := 5715) X w g550 (atype := .int) rfl 11 1 rfl na_int rfl nv_int ac_int (by decide) (by decide) (Nat.le_of_ble_eq_true rfl) (Nat.le_of_ble_eq_true rfl) (Nat.le_of_ble_eq_true rfl) dX9_init_16 (fun S V551 H locs eS eV551 w => ?_)
  rw [← eq549] at eV551 ⊢
  replace h := bdi h _ eS
  replace h := bdi h _ eV551
  refine W.widen (k := 2) (n := 5722) (Nat.le_of_ble_eq_true rfl) (Nat.le_of_ble_eq_true rfl) ?_
  obtain ⟨g552, h⟩ := cgi h
  have g552 := ooB_of g552
  refine m_putR X w o g552.1 g552.2 ci9 2 (by decide) rfl rfl rfl rfl hnm rfl rfl fl_X9_28 dX9_init_18 (fun S H locs eS w => ?_)
  replace h := bdi h _ eS
  refine lv_aload_n hx hb dX9_init_21 rfl (lv_at hl 0 rfl) ?_
  refine lv_sipush (v := 11430) hx hb dX9_init_22 (by decide) ?_
  obtain ⟨g554, h⟩ := cgi h
  have g554 := beq_iff_eq.mp g554
  obtain ⟨q553, eq553⟩ : ∃ y : Nat, y = S.1 := ⟨_, rfl⟩
  replace h := bdi h _ eq553
  refine m_newa (N' := 11430) X w g554 (atype := .int) rfl 11 1 rfl na_int rfl nv_int ac_int (by decide) (by decide) (Nat.le_of_ble_eq_true rfl) (Nat.le_of_ble_eq_true rfl) (Nat.le_of_ble_eq_true rfl) dX9_init_25 (fun S V555 H locs eS eV555 w => ?_)
  rw [← eq553] at eV555 ⊢
  replace h := bdi h _ eS
  replace h := bdi h _ eV555
  refine W.widen (k := 3) (n := 17152) (Nat.le_of_ble_eq_true rfl) (Nat.le_of_ble_eq_true rfl) ?_
  obtain ⟨g556, h⟩ := cgi h
  have g556 := ooB_of g556
  refine m_putR X w o g556.1 g556.2 ci9 3 (by decide) rfl rfl rfl rfl hnm rfl rfl fl_X9_31 dX9_init_27 (fun S H locs eS w => ?_)
  replace h := bdi h _ eS
  refine lv_aload_n hx hb dX9_init_30 rfl (lv_at hl 0 rfl) ?_
  refine lv_iconst (v := 2) hx hb dX9_init_31 (by decide) ?_
  obtain ⟨g558, h⟩ := cgi h
  have g558 := beq_iff_eq.mp g558
  obtain ⟨q557, eq557⟩ : ∃ y : Nat, y = S.1 := ⟨_, rfl⟩
  replace h := bdi h _ eq557
  refine m_newa (N' := 2) X w g558 (atype := .boolean) rfl 13 3 rfl na_boolean rfl nv_boolean ac_boolean (by decide) (by decide) (Nat.le_of_ble_eq_true rfl) (Nat.le_of_ble_eq_true rfl) (Nat.le_of_ble_eq_true rfl) dX9_init_32 (fun S V559 H locs eS eV559 w => ?_)
  rw [← eq557] at eV559 ⊢
  replace h := bdi h _ eS
  replace h := bdi h _ eV559
  refine W.widen (k := 4) (n := 17154) (Nat.le_of_ble_eq_true rfl) (Nat.le_of_ble_eq_true rfl) ?_
  obtain ⟨g560, h⟩ := cgi h
  have g560 := ooB_of g560
  refine m_putR X w o g560.1 g560.2 ci9 4 (by decide) rfl rfl rfl rfl hnm rfl rfl fl_X9_34 dX9_init_34 (fun S H locs eS w => ?_)
  replace h := bdi h _ eS
  refine lv_aload_n hx hb dX9_init_37 rfl (lv_at hl 0 rfl) ?_
  refine lv_bipush (v := 64) hx hb dX9_init_38 (by decide) ?_
  obtain ⟨g562, h⟩ := cgi h
  have g562 := beq_iff_eq.mp g562
  obtain ⟨q561, eq561⟩ : ∃ y : Nat, y = S.1 := ⟨_, rfl⟩
  replace h := bdi h _ eq561
  refine m_newa (N' := 64) X w g562 (atype := .int) rfl 11 1 rfl na_int rfl nv_int ac_int (by decide) (by decide) (Nat.le_of_ble_eq_true rfl) (Nat.le_of_ble_eq_true rfl) (Nat.le_of_ble_eq_true rfl) dX9_init_40 (fun S V563 H locs eS eV563 w => ?_)
  rw [← eq561] at eV563 ⊢
  replace h := bdi h _ eS
  replace h := bdi h _ eV563
  refine W.widen (k := 5) (n := 17218) (Nat.le_of_ble_eq_true rfl) (Nat.le_of_ble_eq_true rfl) ?_
  obtain ⟨g564, h⟩ := cgi h
  have g564 := ooB_of g564
  refine m_putR X w o g564.1 g564.2 ci9 5 (by decide) rfl rfl rfl rfl hnm rfl rfl fl_X9_38 dX9_init_42 (fun S H locs eS w => ?_)
  replace h := bdi h _ eS
  refine lv_aload_n hx hb dX9_init_45 rfl (lv_at hl 0 rfl) ?_
  refine lv_sipush (v := 144) hx hb dX9_init_46 (by decide) ?_
  obtain ⟨g566, h⟩ := cgi h
  have g566 := beq_iff_eq.mp g566
  obtain ⟨q565, eq565⟩ : ∃ y : Nat, y = S.1 := ⟨_, rfl⟩
  replace h := bdi h _ eq565
  refine m_newa (N' := 144) X w g566 (atype := .byte) rfl 10 0 rfl na_byte rfl nv_byte ac_byte (by decide) (by decide) (Nat.le_of_ble_eq_true rfl) (Nat.le_of_ble_eq_true rfl) (Nat.le_of_ble_eq_true rfl) dX9_init_49 (fun S V567 H locs eS eV567 w => ?_)
  rw [← eq565] at eV567 ⊢
  replace h := bdi h _ eS
  replace h := bdi h _ eV567
  refine W.widen (k := 6) (n := 17362) (Nat.le_of_ble_eq_true rfl) (Nat.le_of_ble_eq_true rfl) ?_
  refine lv_dup hx hb dX9_init_51 rfl ?_
  refine lv_iconst (v := 0) hx hb dX9_init_52 (by decide) ?_
  refine lv_bipush (v := 108) hx hb dX9_init_53 (by decide) ?_
  obtain ⟨g568, h⟩ := cgi h
  have g568 := aaB_of g568
  obtain ⟨g569, h⟩ := cki h
  refine m_bast X w q565 g568.1 g568.2.1 g568.2.2 g569 dX9_init_55 (fun V570 H locs eV570 w => ?_)
  replace h := bdi h _ eV570
  refine lv_dup hx hb dX9_init_56 rfl ?_
  refine lv_iconst (v := 1) hx hb dX9_init_57 (by decide) ?_
  refine lv_bipush (v := 101) hx hb dX9_init_58 (by decide) ?_
  obtain ⟨g571, h⟩ := cgi h
  have g571 := aaB_of g571
  obtain ⟨g572, h⟩ := cki h
  refine m_bast X w q565 g571.1 g571.2.1 g571.2.2 g572 dX9_init_60 (fun V573 H locs eV573 w => ?_)
  replace h := bdi h _ eV573
  refine lv_dup hx hb dX9_init_61 rfl ?_
  refine lv_iconst (v := 2) hx hb dX9_init_62 (by decide) ?_
  refine lv_bipush (v := 97) hx hb dX9_init_63 (by decide) ?_
  obtain ⟨g574, h⟩ := cgi h
  have g574 := aaB_of g574
  obtain ⟨g575, h⟩ := cki h
  refine m_bast X w q565 g574.1 g574.2.1 g574.2.2 g575 dX9_init_65 (fun V576 H locs eV576 w => ?_)
  replace h := bdi h _ eV576
  refine lv_dup hx hb dX9_init_66 rfl ?_
  refine lv_iconst (v := 3) hx hb dX9_init_67 (by decide) ?_
  refine lv_bipush (v := 100) hx hb dX9_init_68 (by decide) ?_
  obtain ⟨g577, h⟩ := cgi h
  have g577 := aaB_of g577
  obtain ⟨g578, h⟩ := cki h
  refine m_bast X w q565 g577.1 g577.2.1 g577.2.2 g578 dX9_init_70 (fun V579 H locs eV579 w => ?_)
  replace h := bdi h _ eV579
  refine lv_dup hx hb dX9_init_71 rfl ?_
  refine lv_iconst (v := 4) hx hb dX9_init_72 (by decide) ?_
  refine lv_bipush (v := 115) hx hb dX9_init_73 (by decide) ?_
  obtain ⟨g580, h⟩ := cgi h
  have g580 := aaB_of g580
  obtain ⟨g581, h⟩ := cki h
  refine m_bast X w q565 g580.1 g580.2.1 g580.2.2 g581 dX9_init_75 (fun V582 H locs eV582 w => ?_)
  replace h := bdi h _ eV582
  refine lv_dup hx hb dX9_init_76 rfl ?_
  refine lv_iconst (v := 5) hx hb dX9_init_77 (by decide) ?_
  refine lv_bipush (v := 32) hx hb dX9_init_78 (by decide) ?_
  obtain ⟨g583, h⟩ := cgi h
  have g583 := aaB_of g583
  obtain ⟨g584, h⟩ := cki h
  refine m_bast X w q565 g583.1 g583.2.1 g583.2.2 g584 dX9_init_80 (fun V585 H locs eV585 w => ?_)
  replace h := bdi h _ eV585
  refine lv_dup hx hb dX9_init_81 rfl ?_
  refine lv_bipush (v := 6) hx hb dX9_init_82 (by decide) ?_
  refine lv_bipush (v := 116) hx hb dX9_init_84 (by decide) ?_
  obtain ⟨g586, h⟩ := cgi h
  have g586 := aaB_of g586
  obtain ⟨g587, h⟩ := cki h
  refine m_bast X w q565 g586.1 g586.2.1 g586.2.2 g587 dX9_init_86 (fun V588 H locs eV588 w => ?_)
  replace h := bdi h _ eV588
  refine lv_dup hx hb dX9_init_87 rfl ?_
  refine lv_bipush (v := 7) hx hb dX9_init_88 (by decide) ?_
  refine lv_bipush (v := 97) hx hb dX9_init_90 (by decide) ?_
  obtain ⟨g589, h⟩ := cgi h
  have g589 := aaB_of g589
  obtain ⟨g590, h⟩ := cki h
  refine m_bast X w q565 g589.1 g589.2.1 g589.2.2 g590 dX9_init_92 (fun V591 H locs eV591 w => ?_)
  replace h := bdi h _ eV591
  refine lv_dup hx hb dX9_init_93 rfl ?_
  refine lv_bipush (v := 8) hx hb dX9_init_94 (by decide) ?_
  refine lv_bipush (v := 107) hx hb dX9_init_96 (by decide) ?_
  obtain ⟨g592, h⟩ := cgi h
  have g592 := aaB_of g592
  obtain ⟨g593, h⟩ := cki h
  refine m_bast X w q565 g592.1 g592.2.1 g592.2.2 g593 dX9_init_98 (fun V594 H locs eV594 w => ?_)
  replace h := bdi h _ eV594
  refine lv_dup hx hb dX9_init_99 rfl ?_
  refine lv_bipush (v := 9) hx hb dX9_init_100 (by decide) ?_
  refine lv_bipush (v := 101) hx hb dX9_init_102 (by decide) ?_
  obtain ⟨g595, h⟩ := cgi h
  have g595 := aaB_of g595
  obtain ⟨g596, h⟩ := cki h
  refine m_bast X w q565 g595.1 g595.2.1 g595.2.2 g596 dX9_init_104 (fun V597 H locs eV597 w => ?_)
  replace h := bdi h _ eV597
  refine lv_dup hx hb dX9_init_105 rfl ?_
  refine lv_bipush (v := 10) hx hb dX9_init_106 (by decide) ?_
  refine lv_bipush (v := 115) hx hb dX9_init_108 (by decide) ?_
  obtain ⟨g598, h⟩ := cgi h
  have g598 := aaB_of g598
  obtain ⟨g599, h⟩ := cki h
  refine m_bast X w q565 g598.1 g598.2.1 g598.2.2 g599 dX9_init_110 (fun V600 H locs eV600 w => ?_)
  replace h := bdi h _ eV600
  refine lv_dup hx hb dX9_init_111 rfl ?_
  refine lv_bipush (v := 11) hx hb dX9_init_112 (by decide) ?_
  refine lv_bipush (v := 32) hx hb dX9_init_114 (by decide) ?_
  obtain ⟨g601, h⟩ := cgi h
  have g601 := aaB_of g601
  obtain ⟨g602, h⟩ := cki h
  refine m_bast X w q565 g601.1 g601.2.1 g601.2.2 g602 dX9_init_116 (fun V603 H locs eV603 w => ?_)
  replace h := bdi h _ eV603
  refine lv_dup hx hb dX9_init_117 rfl ?_
  refine lv_bipush (v := 12) hx hb dX9_init_118 (by decide) ?_
  refine lv_bipush (v := 98) hx hb dX9_init_120 (by decide) ?_
  obtain ⟨g604, h⟩ := cgi h
  have g604 := aaB_of g604
  obtain ⟨g605, h⟩ := cki h
  refine m_bast X w q565 g604.1 g604.2.1 g604.2.2 g605 dX9_init_122 (fun V606 H locs eV606 w => ?_)
  replace h := bdi h _ eV606
  refine lv_dup hx hb dX9_init_123 rfl ?_
  refine lv_bipush (v := 13) hx hb dX9_init_124 (by decide) ?_
  refine lv_bipush (v := 105) hx hb dX9_init_126 (by decide) ?_
  obtain ⟨g607, h⟩ := cgi h
  have g607 := aaB_of g607
  obtain ⟨g608, h⟩ := cki h
  refine m_bast X w q565 g607.1 g607.2.1 g607.2.2 g608 dX9_init_128 (fun V609 H locs eV609 w => ?_)
  replace h := bdi h _ eV609
  refine lv_dup hx hb dX9_init_129 rfl ?_
  refine lv_bipush (v := 14) hx hb dX9_init_130 (by decide) ?_
  refine lv_bipush (v := 116) hx hb dX9_init_132 (by decide) ?_
  obtain ⟨g610, h⟩ := cgi h
  have g610 := aaB_of g610
  obtain ⟨g611, h⟩ := cki h
  refine m_bast X w q565 g610.1 g610.2.1 g610.2.2 g611 dX9_init_134 (fun V612 H locs eV612 w => ?_)
  replace h := bdi h _ eV612
  refine lv_dup hx hb dX9_init_135 rfl ?_
  refine lv_bipush (v := 15) hx hb dX9_init_136 (by decide) ?_
  refine lv_bipush (v := 101) hx hb dX9_init_138 (by decide) ?_
  obtain ⟨g613, h⟩ := cgi h
  have g613 := aaB_of g613
  obtain ⟨g614, h⟩ := cki h
  refine m_bast X w q565 g613.1 g613.2.1 g613.2.2 g614 dX9_init_140 (fun V615 H locs eV615 w => ?_)
  replace h := bdi h _ eV615
  refine lv_dup hx hb dX9_init_141 rfl ?_
  refine lv_bipush (v := 16) hx hb dX9_init_142 (by decide) ?_
  refine lv_bipush (v := 115) hx hb dX9_init_144 (by decide) ?_
  obtain ⟨g616, h⟩ := cgi h
  have g616 := aaB_of g616
  obtain ⟨g617, h⟩ := cki h
  refine m_bast X w q565 g616.1 g616.2.1 g616.2.2 g617 dX9_init_146 (fun V618 H locs eV618 w => ?_)
  replace h := bdi h _ eV618
  refine lv_dup hx hb dX9_init_147 rfl ?_
  refine lv_bipush (v := 17) hx hb dX9_init_148 (by decide) ?_
  refine lv_bipush (v := 32) hx hb dX9_init_150 (by decide) ?_
  obtain ⟨g619, h⟩ := cgi h
  have g619 := aaB_of g619
  obtain ⟨g620, h⟩ := cki h
  refine m_bast X w q565 g619.1 g619.2.1 g619.2.2 g620 dX9_init_152 (fun V621 H locs eV621 w => ?_)
  replace h := bdi h _ eV621
  refine lv_dup hx hb dX9_init_153 rfl ?_
  refine lv_bipush (v := 18) hx hb dX9_init_154 (by decide) ?_
  refine lv_bipush (v := 98) hx hb dX9_init_156 (by decide) ?_
  obtain ⟨g622, h⟩ := cgi h
  have g622 := aaB_of g622
  obtain ⟨g623, h⟩ := cki h
  refine m_bast X w q565 g622.1 g622.2.1 g622.2.2 g623 dX9_init_158 (fun V624 H locs eV624 w => ?_)
  replace h := bdi h _ eV624
  refine lv_dup hx hb dX9_init_159 rfl ?_
  refine lv_bipush (v := 19) hx hb dX9_init_160 (by decide) ?_
  refine lv_bipush (v := 97) hx hb dX9_init_162 (by decide) ?_
  obtain ⟨g625, h⟩ := cgi h
  have g625 := aaB_of g625
  obtain ⟨g626, h⟩ := cki h
  refine m_bast X w q565 g625.1 g625.2.1 g625.2.2 g626 dX9_init_164 (fun V627 H locs eV627 w => ?_)
  replace h := bdi h _ eV627
  refine lv_dup hx hb dX9_init_165 rfl ?_
  refine lv_bipush (v := 20) hx hb dX9_init_166 (by decide) ?_
  refine lv_bipush (v := 114) hx hb dX9_init_168 (by decide) ?_
  obtain ⟨g628, h⟩ := cgi h
  have g628 := aaB_of g628
  obtain ⟨g629, h⟩ := cki h
  refine m_bast X w q565 g628.1 g628.2.1 g628.2.2 g629 dX9_init_170 (fun V630 H locs eV630 w => ?_)
  replace h := bdi h _ eV630
  refine lv_dup hx hb dX9_init_171 rfl ?_
  refine lv_bipush (v := 21) hx hb dX9_init_172 (by decide) ?_
  refine lv_bipush (v := 115) hx hb dX9_init_174 (by decide) ?_
  obtain ⟨g631, h⟩ := cgi h
  have g631 := aaB_of g631
  obtain ⟨g632, h⟩ := cki h
  refine m_bast X w q565 g631.1 g631.2.1 g631.2.2 g632 dX9_init_176 (fun V633 H locs eV633 w => ?_)
  replace h := bdi h _ eV633
  refine lv_dup hx hb dX9_init_177 rfl ?_
  refine lv_bipush (v := 22) hx hb dX9_init_178 (by decide) ?_
  refine lv_bipush (v := 32) hx hb dX9_init_180 (by decide) ?_
  obtain ⟨g634, h⟩ := cgi h
  have g634 := aaB_of g634
  obtain ⟨g635, h⟩ := cki h
  refine m_bast X w q565 g634.1 g634.2.1 g634.2.2 g635 dX9_init_182 (fun V636 H locs eV636 w => ?_)
  replace h := bdi h _ eV636
  refine lv_dup hx hb dX9_init_183 rfl ?_
  refine lv_bipush (v := 23) hx hb dX9_init_184 (by decide) ?_
  refine lv_bipush (v := 105) hx hb dX9_init_186 (by decide) ?_
  obtain ⟨g637, h⟩ := cgi h
  have g637 := aaB_of g637
  obtain ⟨g638, h⟩ := cki h
  refine m_bast X w q565 g637.1 g637.2.1 g637.2.2 g638 dX9_init_188 (fun V639 H locs eV639 w => ?_)
  replace h := bdi h _ eV639
  refine lv_dup hx hb dX9_init_189 rfl ?_
  refine lv_bipush (v := 24) hx hb dX9_init_190 (by decide) ?_
  refine lv_bipush (v := 102) hx hb dX9_init_192 (by decide) ?_
  obtain ⟨g640, h⟩ := cgi h
  have g640 := aaB_of g640
  obtain ⟨g641, h⟩ := cki h
  refine m_bast X w q565 g640.1 g640.2.1 g640.2.2 g641 dX9_init_194 (fun V642 H locs eV642 w => ?_)
  replace h := bdi h _ eV642
  refine lv_dup hx hb dX9_init_195 rfl ?_
  refine lv_bipush (v := 25) hx hb dX9_init_196 (by decide) ?_
  refine lv_bipush (v := 32) hx hb dX9_init_198 (by decide) ?_
  obtain ⟨g643, h⟩ := cgi h
  have g643 := aaB_of g643
  obtain ⟨g644, h⟩ := cki h
  refine m_bast X w q565 g643.1 g643.2.1 g643.2.2 g644 dX9_init_200 (fun V645 H locs eV645 w => ?_)
  replace h := bdi h _ eV645
  refine lv_dup hx hb dX9_init_201 rfl ?_
  refine lv_bipush (v := 26) hx hb dX9_init_202 (by decide) ?_
  refine lv_bipush (v := 111) hx hb dX9_init_204 (by decide) ?_
  obtain ⟨g646, h⟩ := cgi h
  have g646 := aaB_of g646
  obtain ⟨g647, h⟩ := cki h
  refine m_bast X w q565 g646.1 g646.2.1 g646.2.2 g647 dX9_init_206 (fun V648 H locs eV648 w => ?_)
  replace h := bdi h _ eV648
  refine lv_dup hx hb dX9_init_207 rfl ?_
  refine lv_bipush (v := 27) hx hb dX9_init_208 (by decide) ?_
  refine lv_bipush (v := 114) hx hb dX9_init_210 (by decide) ?_
  obtain ⟨g649, h⟩ := cgi h
  have g649 := aaB_of g649
  obtain ⟨g650, h⟩ := cki h
  refine m_bast X w q565 g649.1 g649.2.1 g649.2.2 g650 dX9_init_212 (fun V651 H locs eV651 w => ?_)
  replace h := bdi h _ eV651
  refine lv_dup hx hb dX9_init_213 rfl ?_
  refine lv_bipush (v := 28) hx hb dX9_init_214 (by decide) ?_
  refine lv_bipush (v := 32) hx hb dX9_init_216 (by decide) ?_
  obtain ⟨g652, h⟩ := cgi h
  have g652 := aaB_of g652
  obtain ⟨g653, h⟩ := cki h
  refine m_bast X w q565 g652.1 g652.2.1 g652.2.2 g653 dX9_init_218 (fun V654 H locs eV654 w => ?_)
  replace h := bdi h _ eV654
  refine lv_dup hx hb dX9_init_219 rfl ?_
  refine lv_bipush (v := 29) hx hb dX9_init_220 (by decide) ?_
  refine lv_bipush (v := 97) hx hb dX9_init_222 (by decide) ?_
  obtain ⟨g655, h⟩ := cgi h
  have g655 := aaB_of g655
  obtain ⟨g656, h⟩ := cki h
  refine m_bast X w q565 g655.1 g655.2.1 g655.2.2 g656 dX9_init_224 (fun V657 H locs eV657 w => ?_)
  replace h := bdi h _ eV657
  refine lv_dup hx hb dX9_init_225 rfl ?_
  refine lv_bipush (v := 30) hx hb dX9_init_226 (by decide) ?_
  refine lv_bipush (v := 110) hx hb dX9_init_228 (by decide) ?_
  obtain ⟨g658, h⟩ := cgi h
  have g658 := aaB_of g658
  obtain ⟨g659, h⟩ := cki h
  refine m_bast X w q565 g658.1 g658.2.1 g658.2.2 g659 dX9_init_230 (fun V660 H locs eV660 w => ?_)
  replace h := bdi h _ eV660
  refine lv_dup hx hb dX9_init_231 rfl ?_
  refine lv_bipush (v := 31) hx hb dX9_init_232 (by decide) ?_
  refine lv_bipush (v := 100) hx hb dX9_init_234 (by decide) ?_
  obtain ⟨g661, h⟩ := cgi h
  have g661 := aaB_of g661
  obtain ⟨g662, h⟩ := cki h
  refine m_bast X w q565 g661.1 g661.2.1 g661.2.2 g662 dX9_init_236 (fun V663 H locs eV663 w => ?_)
  replace h := bdi h _ eV663
  refine lv_dup hx hb dX9_init_237 rfl ?_
  refine lv_bipush (v := 32) hx hb dX9_init_238 (by decide) ?_
  refine lv_bipush (v := 32) hx hb dX9_init_240 (by decide) ?_
  obtain ⟨g664, h⟩ := cgi h
  have g664 := aaB_of g664
  obtain ⟨g665, h⟩ := cki h
  refine m_bast X w q565 g664.1 g664.2.1 g664.2.2 g665 dX9_init_242 (fun V666 H locs eV666 w => ?_)
  replace h := bdi h _ eV666
  refine lv_dup hx hb dX9_init_243 rfl ?_
  refine lv_bipush (v := 33) hx hb dX9_init_244 (by decide) ?_
  refine lv_bipush (v := 110) hx hb dX9_init_246 (by decide) ?_
  obtain ⟨g667, h⟩ := cgi h
  have g667 := aaB_of g667
  obtain ⟨g668, h⟩ := cki h
  refine m_bast X w q565 g667.1 g667.2.1 g667.2.2 g668 dX9_init_248 (fun V669 H locs eV669 w => ?_)
  replace h := bdi h _ eV669
  refine lv_dup hx hb dX9_init_249 rfl ?_
  refine lv_bipush (v := 34) hx hb dX9_init_250 (by decide) ?_
  refine lv_bipush (v := 111) hx hb dX9_init_252 (by decide) ?_
  obtain ⟨g670, h⟩ := cgi h
  have g670 := aaB_of g670
  obtain ⟨g671, h⟩ := cki h
  refine m_bast X w q565 g670.1 g670.2.1 g670.2.2 g671 dX9_init_254 (fun V672 H locs eV672 w => ?_)
  replace h := bdi h _ eV672
  refine lv_dup hx hb dX9_init_255 rfl ?_
  refine lv_bipush (v := 35) hx hb dX9_init_256 (by decide) ?_
  refine lv_bipush (v := 116) hx hb dX9_init_258 (by decide) ?_
  obtain ⟨g673, h⟩ := cgi h
  have g673 := aaB_of g673
  obtain ⟨g674, h⟩ := cki h
  refine m_bast X w q565 g673.1 g673.2.1 g673.2.2 g674 dX9_init_260 (fun V675 H locs eV675 w => ?_)
  replace h := bdi h _ eV675
  refine lv_dup hx hb dX9_init_261 rfl ?_
  refine lv_bipush (v := 36) hx hb dX9_init_262 (by decide) ?_
  refine lv_bipush (v := 32) hx hb dX9_init_264 (by decide) ?_
  obtain ⟨g676, h⟩ := cgi h
  have g676 := aaB_of g676
  obtain ⟨g677, h⟩ := cki h
  refine m_bast X w q565 g676.1 g676.2.1 g676.2.2 g677 dX9_init_266 (fun V678 H locs eV678 w => ?_)
  replace h := bdi h _ eV678
  refine lv_dup hx hb dX9_init_267 rfl ?_
  refine lv_bipush (v := 37) hx hb dX9_init_268 (by decide) ?_
  refine lv_bipush (v := 99) hx hb dX9_init_270 (by decide) ?_
  obtain ⟨g679, h⟩ := cgi h
  have g679 := aaB_of g679
  obtain ⟨g680, h⟩ := cki h
  refine m_bast X w q565 g679.1 g679.2.1 g679.2.2 g680 dX9_init_272 (fun V681 H locs eV681 w => ?_)
  replace h := bdi h _ eV681
  refine lv_dup hx hb dX9_init_273 rfl ?_
  refine lv_bipush (v := 38) hx hb dX9_init_274 (by decide) ?_
  refine lv_bipush (v := 101) hx hb dX9_init_276 (by decide) ?_
  obtain ⟨g682, h⟩ := cgi h
  have g682 := aaB_of g682
  obtain ⟨g683, h⟩ := cki h
  refine m_bast X w q565 g682.1 g682.2.1 g682.2.2 g683 dX9_init_278 (fun V684 H locs eV684 w => ?_)
  replace h := bdi h _ eV684
  refine lv_dup hx hb dX9_init_279 rfl ?_
  refine lv_bipush (v := 39) hx hb dX9_init_280 (by decide) ?_
  refine lv_bipush (v := 108) hx hb dX9_init_282 (by decide) ?_
  obtain ⟨g685, h⟩ := cgi h
  have g685 := aaB_of g685
  obtain ⟨g686, h⟩ := cki h
  refine m_bast X w q565 g685.1 g685.2.1 g685.2.2 g686 dX9_init_284 (fun V687 H locs eV687 w => ?_)
  replace h := bdi h _ eV687
  refine lv_dup hx hb dX9_init_285 rfl ?_
  refine lv_bipush (v := 40) hx hb dX9_init_286 (by decide) ?_
  refine lv_bipush (v := 108) hx hb dX9_init_288 (by decide) ?_
  obtain ⟨g688, h⟩ := cgi h
  have g688 := aaB_of g688
  obtain ⟨g689, h⟩ := cki h
  refine m_bast X w q565 g688.1 g688.2.1 g688.2.2 g689 dX9_init_290 (fun V690 H locs eV690 w => ?_)
  replace h := bdi h _ eV690
  refine lv_dup hx hb dX9_init_291 rfl ?_
  refine lv_bipush (v := 41) hx hb dX9_init_292 (by decide) ?_
  refine lv_bipush (v := 32) hx hb dX9_init_294 (by decide) ?_
  obtain ⟨g691, h⟩ := cgi h
  have g691 := aaB_of g691
  obtain ⟨g692, h⟩ := cki h
  refine m_bast X w q565 g691.1 g691.2.1 g691.2.2 g692 dX9_init_296 (fun V693 H locs eV693 w => ?_)
  replace h := bdi h _ eV693
  refine lv_dup hx hb dX9_init_297 rfl ?_
  refine lv_bipush (v := 42) hx hb dX9_init_298 (by decide) ?_
  refine lv_bipush (v := 114) hx hb dX9_init_300 (by decide) ?_
  obtain ⟨g694, h⟩ := cgi h
  have g694 := aaB_of g694
  obtain ⟨g695, h⟩ := cki h
  refine m_bast X w q565 g694.1 g694.2.1 g694.2.2 g695 dX9_init_302 (fun V696 H locs eV696 w => ?_)
  replace h := bdi h _ eV696
  refine lv_dup hx hb dX9_init_303 rfl ?_
  refine lv_bipush (v := 43) hx hb dX9_init_304 (by decide) ?_
  refine lv_bipush (v := 111) hx hb dX9_init_306 (by decide) ?_
  obtain ⟨g697, h⟩ := cgi h
  have g697 := aaB_of g697
  obtain ⟨g698, h⟩ := cki h
  refine m_bast X w q565 g697.1 g697.2.1 g697.2.2 g698 dX9_init_308 (fun V699 H locs eV699 w => ?_)
  replace h := bdi h _ eV699
  refine lv_dup hx hb dX9_init_309 rfl ?_
  refine lv_bipush (v := 44) hx hb dX9_init_310 (by decide) ?_
  refine lv_bipush (v := 119) hx hb dX9_init_312 (by decide) ?_
  obtain ⟨g700, h⟩ := cgi h
  have g700 := aaB_of g700
  obtain ⟨g701, h⟩ := cki h
  refine m_bast X w q565 g700.1 g700.2.1 g700.2.2 g701 dX9_init_314 (fun V702 H locs eV702 w => ?_)
  replace h := bdi h _ eV702
  refine lv_dup hx hb dX9_init_315 rfl ?_
  refine lv_bipush (v := 45) hx hb dX9_init_316 (by decide) ?_
  refine lv_bipush (v := 32) hx hb dX9_init_318 (by decide) ?_
  obtain ⟨g703, h⟩ := cgi h
  have g703 := aaB_of g703
  obtain ⟨g704, h⟩ := cki h
  refine m_bast X w q565 g703.1 g703.2.1 g703.2.2 g704 dX9_init_320 (fun V705 H locs eV705 w => ?_)
  replace h := bdi h _ eV705
  refine lv_dup hx hb dX9_init_321 rfl ?_
  refine lv_bipush (v := 46) hx hb dX9_init_322 (by decide) ?_
  refine lv_bipush (v := 99) hx hb dX9_init_324 (by decide) ?_
  obtain ⟨g706, h⟩ := cgi h
  have g706 := aaB_of g706
  obtain ⟨g707, h⟩ := cki h
  refine m_bast X w q565 g706.1 g706.2.1 g706.2.2 g707 dX9_init_326 (fun V708 H locs eV708 w => ?_)
  replace h := bdi h _ eV708
  refine lv_dup hx hb dX9_init_327 rfl ?_
  refine lv_bipush (v := 47) hx hb dX9_init_328 (by decide) ?_
  refine lv_bipush (v := 111) hx hb dX9_init_330 (by decide) ?_
  obtain ⟨g709, h⟩ := cgi h
  have g709 := aaB_of g709
  obtain ⟨g710, h⟩ := cki h
  refine m_bast X w q565 g709.1 g709.2.1 g709.2.2 g710 dX9_init_332 (fun V711 H locs eV711 w => ?_)
  replace h := bdi h _ eV711
  refine lv_dup hx hb dX9_init_333 rfl ?_
  refine lv_bipush (v := 48) hx hb dX9_init_334 (by decide) ?_
  refine lv_bipush (v := 108) hx hb dX9_init_336 (by decide) ?_
  obtain ⟨g712, h⟩ := cgi h
  have g712 := aaB_of g712
  obtain ⟨g713, h⟩ := cki h
  refine m_bast X w q565 g712.1 g712.2.1 g712.2.2 g713 dX9_init_338 (fun V714 H locs eV714 w => ?_)
  replace h := bdi h _ eV714
  refine lv_dup hx hb dX9_init_339 rfl ?_
  refine lv_bipush (v := 49) hx hb dX9_init_340 (by decide) ?_
  refine lv_bipush (v := 117) hx hb dX9_init_342 (by decide) ?_
  obtain ⟨g715, h⟩ := cgi h
  have g715 := aaB_of g715
  obtain ⟨g716, h⟩ := cki h
  refine m_bast X w q565 g715.1 g715.2.1 g715.2.2 g716 dX9_init_344 (fun V717 H locs eV717 w => ?_)
  replace h := bdi h _ eV717
  refine lv_dup hx hb dX9_init_345 rfl ?_
  refine lv_bipush (v := 50) hx hb dX9_init_346 (by decide) ?_
  refine lv_bipush (v := 109) hx hb dX9_init_348 (by decide) ?_
  obtain ⟨g718, h⟩ := cgi h
  have g718 := aaB_of g718
  obtain ⟨g719, h⟩ := cki h
  refine m_bast X w q565 g718.1 g718.2.1 g718.2.2 g719 dX9_init_350 (fun V720 H locs eV720 w => ?_)
  replace h := bdi h _ eV720
  refine lv_dup hx hb dX9_init_351 rfl ?_
  refine lv_bipush (v := 51) hx hb dX9_init_352 (by decide) ?_
  refine lv_bipush (v := 110) hx hb dX9_init_354 (by decide) ?_
  obtain ⟨g721, h⟩ := cgi h
  have g721 := aaB_of g721
  obtain ⟨g722, h⟩ := cki h
  refine m_bast X w q565 g721.1 g721.2.1 g721.2.2 g722 dX9_init_356 (fun V723 H locs eV723 w => ?_)
  replace h := bdi h _ eV723
  refine lv_dup hx hb dX9_init_357 rfl ?_
  refine lv_bipush (v := 52) hx hb dX9_init_358 (by decide) ?_
  refine lv_bipush (v := 32) hx hb dX9_init_360 (by decide) ?_
  obtain ⟨g724, h⟩ := cgi h
  have g724 := aaB_of g724
  obtain ⟨g725, h⟩ := cki h
  refine m_bast X w q565 g724.1 g724.2.1 g724.2.2 g725 dX9_init_362 (fun V726 H locs eV726 w => ?_)
  replace h := bdi h _ eV726
  refine lv_dup hx hb dX9_init_363 rfl ?_
  refine lv_bipush (v := 53) hx hb dX9_init_364 (by decide) ?_
  refine lv_bipush (v := 99) hx hb dX9_init_366 (by decide) ?_
  obtain ⟨g727, h⟩ := cgi h
  have g727 := aaB_of g727
  obtain ⟨g728, h⟩ := cki h
  refine m_bast X w q565 g727.1 g727.2.1 g727.2.2 g728 dX9_init_368 (fun V729 H locs eV729 w => ?_)
  replace h := bdi h _ eV729
  refine lv_dup hx hb dX9_init_369 rfl ?_
  refine lv_bipush (v := 54) hx hb dX9_init_370 (by decide) ?_
  refine lv_bipush (v := 108) hx hb dX9_init_372 (by decide) ?_
  obtain ⟨g730, h⟩ := cgi h
  have g730 := aaB_of g730
  obtain ⟨g731, h⟩ := cki h
  refine m_bast X w q565 g730.1 g730.2.1 g730.2.2 g731 dX9_init_374 (fun V732 H locs eV732 w => ?_)
  replace h := bdi h _ eV732
  refine lv_dup hx hb dX9_init_375 rfl ?_
  refine lv_bipush (v := 55) hx hb dX9_init_376 (by decide) ?_
  refine lv_bipush (v := 101) hx hb dX9_init_378 (by decide) ?_
  obtain ⟨g733, h⟩ := cgi h
  have g733 := aaB_of g733
  obtain ⟨g734, h⟩ := cki h
  refine m_bast X w q565 g733.1 g733.2.1 g733.2.2 g734 dX9_init_380 (fun V735 H locs eV735 w => ?_)
  replace h := bdi h _ eV735
  refine lv_dup hx hb dX9_init_381 rfl ?_
  refine lv_bipush (v := 56) hx hb dX9_init_382 (by decide) ?_
  refine lv_bipush (v := 114) hx hb dX9_init_384 (by decide) ?_
  obtain ⟨g736, h⟩ := cgi h
  have g736 := aaB_of g736
  obtain ⟨g737, h⟩ := cki h
  refine m_bast X w q565 g736.1 g736.2.1 g736.2.2 g737 dX9_init_386 (fun V738 H locs eV738 w => ?_)
  replace h := bdi h _ eV738
  refine lv_dup hx hb dX9_init_387 rfl ?_
  refine lv_bipush (v := 57) hx hb dX9_init_388 (by decide) ?_
  refine lv_bipush (v := 107) hx hb dX9_init_390 (by decide) ?_
  obtain ⟨g739, h⟩ := cgi h
  have g739 := aaB_of g739
  obtain ⟨g740, h⟩ := cki h
  refine m_bast X w q565 g739.1 g739.2.1 g739.2.2 g740 dX9_init_392 (fun V741 H locs eV741 w => ?_)
  replace h := bdi h _ eV741
  refine lv_dup hx hb dX9_init_393 rfl ?_
  refine lv_bipush (v := 58) hx hb dX9_init_394 (by decide) ?_
  refine lv_bipush (v := 32) hx hb dX9_init_396 (by decide) ?_
  obtain ⟨g742, h⟩ := cgi h
  have g742 := aaB_of g742
  obtain ⟨g743, h⟩ := cki h
  refine m_bast X w q565 g742.1 g742.2.1 g742.2.2 g743 dX9_init_398 (fun V744 H locs eV744 w => ?_)
  replace h := bdi h _ eV744
  refine lv_dup hx hb dX9_init_399 rfl ?_
  refine lv_bipush (v := 59) hx hb dX9_init_400 (by decide) ?_
  refine lv_bipush (v := 107) hx hb dX9_init_402 (by decide) ?_
  obtain ⟨g745, h⟩ := cgi h
  have g745 := aaB_of g745
  obtain ⟨g746, h⟩ := cki h
  refine m_bast X w q565 g745.1 g745.2.1 g745.2.2 g746 dX9_init_404 (fun V747 H locs eV747 w => ?_)
  replace h := bdi h _ eV747
  refine lv_dup hx hb dX9_init_405 rfl ?_
  refine lv_bipush (v := 60) hx hb dX9_init_406 (by decide) ?_
  refine lv_bipush (v := 101) hx hb dX9_init_408 (by decide) ?_
  obtain ⟨g748, h⟩ := cgi h
  have g748 := aaB_of g748
  obtain ⟨g749, h⟩ := cki h
  refine m_bast X w q565 g748.1 g748.2.1 g748.2.2 g749 dX9_init_410 (fun V750 H locs eV750 w => ?_)
  replace h := bdi h _ eV750
  refine lv_dup hx hb dX9_init_411 rfl ?_
  refine lv_bipush (v := 61) hx hb dX9_init_412 (by decide) ?_
  refine lv_bipush (v := 101) hx hb dX9_init_414 (by decide) ?_
  obtain ⟨g751, h⟩ := cgi h
  have g751 := aaB_of g751
  obtain ⟨g752, h⟩ := cki h
  refine m_bast X w q565 g751.1 g751.2.1 g751.2.2 g752 dX9_init_416 (fun V753 H locs eV753 w => ?_)
  replace h := bdi h _ eV753
  refine lv_dup hx hb dX9_init_417 rfl ?_
  refine lv_bipush (v := 62) hx hb dX9_init_418 (by decide) ?_
  refine lv_bipush (v := 110) hx hb dX9_init_420 (by decide) ?_
  obtain ⟨g754, h⟩ := cgi h
  have g754 := aaB_of g754
  obtain ⟨g755, h⟩ := cki h
  refine m_bast X w q565 g754.1 g754.2.1 g754.2.2 g755 dX9_init_422 (fun V756 H locs eV756 w => ?_)
  replace h := bdi h _ eV756
  refine lv_dup hx hb dX9_init_423 rfl ?_
  refine lv_bipush (v := 63) hx hb dX9_init_424 (by decide) ?_
  refine lv_bipush (v := 32) hx hb dX9_init_426 (by decide) ?_
  obtain ⟨g757, h⟩ := cgi h
  have g757 := aaB_of g757
  obtain ⟨g758, h⟩ := cki h
  refine m_bast X w q565 g757.1 g757.2.1 g757.2.2 g758 dX9_init_428 (fun V759 H locs eV759 w => ?_)
  replace h := bdi h _ eV759
  refine lv_dup hx hb dX9_init_429 rfl ?_
  refine lv_bipush (v := 64) hx hb dX9_init_430 (by decide) ?_
  refine lv_bipush (v := 109) hx hb dX9_init_432 (by decide) ?_
  obtain ⟨g760, h⟩ := cgi h
  have g760 := aaB_of g760
  obtain ⟨g761, h⟩ := cki h
  refine m_bast X w q565 g760.1 g760.2.1 g760.2.2 g761 dX9_init_434 (fun V762 H locs eV762 w => ?_)
  replace h := bdi h _ eV762
  refine lv_dup hx hb dX9_init_435 rfl ?_
  refine lv_bipush (v := 65) hx hb dX9_init_436 (by decide) ?_
  refine lv_bipush (v := 111) hx hb dX9_init_438 (by decide) ?_
  obtain ⟨g763, h⟩ := cgi h
  have g763 := aaB_of g763
  obtain ⟨g764, h⟩ := cki h
  refine m_bast X w q565 g763.1 g763.2.1 g763.2.2 g764 dX9_init_440 (fun V765 H locs eV765 w => ?_)
  replace h := bdi h _ eV765
  refine lv_dup hx hb dX9_init_441 rfl ?_
  refine lv_bipush (v := 66) hx hb dX9_init_442 (by decide) ?_
  refine lv_bipush (v := 111) hx hb dX9_init_444 (by decide) ?_
  obtain ⟨g766, h⟩ := cgi h
  have g766 := aaB_of g766
  obtain ⟨g767, h⟩ := cki h
  refine m_bast X w q565 g766.1 g766.2.1 g766.2.2 g767 dX9_init_446 (fun V768 H locs eV768 w => ?_)
  replace h := bdi h _ eV768
  refine lv_dup hx hb dX9_init_447 rfl ?_
  refine lv_bipush (v := 67) hx hb dX9_init_448 (by decide) ?_
  refine lv_bipush (v := 100) hx hb dX9_init_450 (by decide) ?_
  obtain ⟨g769, h⟩ := cgi h
  have g769 := aaB_of g769
  obtain ⟨g770, h⟩ := cki h
  refine m_bast X w q565 g769.1 g769.2.1 g769.2.2 g770 dX9_init_452 (fun V771 H locs eV771 w => ?_)
  replace h := bdi h _ eV771
  refine lv_dup hx hb dX9_init_453 rfl ?_
  refine lv_bipush (v := 68) hx hb dX9_init_454 (by decide) ?_
  refine lv_bipush (v := 32) hx hb dX9_init_456 (by decide) ?_
  obtain ⟨g772, h⟩ := cgi h
  have g772 := aaB_of g772
  obtain ⟨g773, h⟩ := cki h
  refine m_bast X w q565 g772.1 g772.2.1 g772.2.2 g773 dX9_init_458 (fun V774 H locs eV774 w => ?_)
  replace h := bdi h _ eV774
  refine lv_dup hx hb dX9_init_459 rfl ?_
  refine lv_bipush (v := 69) hx hb dX9_init_460 (by decide) ?_
  refine lv_bipush (v := 101) hx hb dX9_init_462 (by decide) ?_
  obtain ⟨g775, h⟩ := cgi h
  have g775 := aaB_of g775
  obtain ⟨g776, h⟩ := cki h
  refine m_bast X w q565 g775.1 g775.2.1 g775.2.2 g776 dX9_init_464 (fun V777 H locs eV777 w => ?_)
  replace h := bdi h _ eV777
  refine lv_dup hx hb dX9_init_465 rfl ?_
  refine lv_bipush (v := 70) hx hb dX9_init_466 (by decide) ?_
  refine lv_bipush (v := 110) hx hb dX9_init_468 (by decide) ?_
  obtain ⟨g778, h⟩ := cgi h
  have g778 := aaB_of g778
  obtain ⟨g779, h⟩ := cki h
  refine m_bast X w q565 g778.1 g778.2.1 g778.2.2 g779 dX9_init_470 (fun V780 H locs eV780 w => ?_)
  replace h := bdi h _ eV780
  refine lv_dup hx hb dX9_init_471 rfl ?_
  refine lv_bipush (v := 71) hx hb dX9_init_472 (by decide) ?_
  refine lv_bipush (v := 116) hx hb dX9_init_474 (by decide) ?_
  obtain ⟨g781, h⟩ := cgi h
  have g781 := aaB_of g781
  obtain ⟨g782, h⟩ := cki h
  refine m_bast X w q565 g781.1 g781.2.1 g781.2.2 g782 dX9_init_476 (fun V783 H locs eV783 w => ?_)
  replace h := bdi h _ eV783
  refine lv_dup hx hb dX9_init_477 rfl ?_
  refine lv_bipush (v := 72) hx hb dX9_init_478 (by decide) ?_
  refine lv_bipush (v := 114) hx hb dX9_init_480 (by decide) ?_
  obtain ⟨g784, h⟩ := cgi h
  have g784 := aaB_of g784
  obtain ⟨g785, h⟩ := cki h
  refine m_bast X w q565 g784.1 g784.2.1 g784.2.2 g785 dX9_init_482 (fun V786 H locs eV786 w => ?_)
  replace h := bdi h _ eV786
  refine lv_dup hx hb dX9_init_483 rfl ?_
  refine lv_bipush (v := 73) hx hb dX9_init_484 (by decide) ?_
  refine lv_bipush (v := 121) hx hb dX9_init_486 (by decide) ?_
  obtain ⟨g787, h⟩ := cgi h
  have g787 := aaB_of g787
  obtain ⟨g788, h⟩ := cki h
  refine m_bast X w q565 g787.1 g787.2.1 g787.2.2 g788 dX9_init_488 (fun V789 H locs eV789 w => ?_)
  replace h := bdi h _ eV789
  refine lv_dup hx hb dX9_init_489 rfl ?_
  refine lv_bipush (v := 74) hx hb dX9_init_490 (by decide) ?_
  refine lv_bipush (v := 32) hx hb dX9_init_492 (by decide) ?_
  obtain ⟨g790, h⟩ := cgi h
  have g790 := aaB_of g790
  obtain ⟨g791, h⟩ := cki h
  refine m_bast X w q565 g790.1 g790.2.1 g790.2.2 g791 dX9_init_494 (fun V792 H locs eV792 w => ?_)
  replace h := bdi h _ eV792
  refine lv_dup hx hb dX9_init_495 rfl ?_
  refine lv_bipush (v := 75) hx hb dX9_init_496 (by decide) ?_
  refine lv_bipush (v := 111) hx hb dX9_init_498 (by decide) ?_
  obtain ⟨g793, h⟩ := cgi h
  have g793 := aaB_of g793
  obtain ⟨g794, h⟩ := cki h
  refine m_bast X w q565 g793.1 g793.2.1 g793.2.2 g794 dX9_init_500 (fun V795 H locs eV795 w => ?_)
  replace h := bdi h _ eV795
  refine lv_dup hx hb dX9_init_501 rfl ?_
  refine lv_bipush (v := 76) hx hb dX9_init_502 (by decide) ?_
  refine lv_bipush (v := 102) hx hb dX9_init_504 (by decide) ?_
  obtain ⟨g796, h⟩ := cgi h
  have g796 := aaB_of g796
  obtain ⟨g797, h⟩ := cki h
  refine m_bast X w q565 g796.1 g796.2.1 g796.2.2 g797 dX9_init_506 (fun V798 H locs eV798 w => ?_)
  replace h := bdi h _ eV798
  refine lv_dup hx hb dX9_init_507 rfl ?_
  refine lv_bipush (v := 77) hx hb dX9_init_508 (by decide) ?_
  refine lv_bipush (v := 102) hx hb dX9_init_510 (by decide) ?_
  obtain ⟨g799, h⟩ := cgi h
  have g799 := aaB_of g799
  obtain ⟨g800, h⟩ := cki h
  refine m_bast X w q565 g799.1 g799.2.1 g799.2.2 g800 dX9_init_512 (fun V801 H locs eV801 w => ?_)
  replace h := bdi h _ eV801
  refine lv_dup hx hb dX9_init_513 rfl ?_
  refine lv_bipush (v := 78) hx hb dX9_init_514 (by decide) ?_
  refine lv_bipush (v := 32) hx hb dX9_init_516 (by decide) ?_
  obtain ⟨g802, h⟩ := cgi h
  have g802 := aaB_of g802
  obtain ⟨g803, h⟩ := cki h
  refine m_bast X w q565 g802.1 g802.2.1 g802.2.2 g803 dX9_init_518 (fun V804 H locs eV804 w => ?_)
  replace h := bdi h _ eV804
  refine lv_dup hx hb dX9_init_519 rfl ?_
  refine lv_bipush (v := 79) hx hb dX9_init_520 (by decide) ?_
  refine lv_bipush (v := 97) hx hb dX9_init_522 (by decide) ?_
  obtain ⟨g805, h⟩ := cgi h
  have g805 := aaB_of g805
  obtain ⟨g806, h⟩ := cki h
  refine m_bast X w q565 g805.1 g805.2.1 g805.2.2 g806 dX9_init_524 (fun V807 H locs eV807 w => ?_)
  replace h := bdi h _ eV807
  refine lv_dup hx hb dX9_init_525 rfl ?_
  refine lv_bipush (v := 80) hx hb dX9_init_526 (by decide) ?_
  refine lv_bipush (v := 99) hx hb dX9_init_528 (by decide) ?_
  obtain ⟨g808, h⟩ := cgi h
  have g808 := aaB_of g808
  obtain ⟨g809, h⟩ := cki h
  refine m_bast X w q565 g808.1 g808.2.1 g808.2.2 g809 dX9_init_530 (fun V810 H locs eV810 w => ?_)
  replace h := bdi h _ eV810
  refine lv_dup hx hb dX9_init_531 rfl ?_
  refine lv_bipush (v := 81) hx hb dX9_init_532 (by decide) ?_
  refine lv_bipush (v := 114) hx hb dX9_init_534 (by decide) ?_
  obtain ⟨g811, h⟩ := cgi h
  have g811 := aaB_of g811
  obtain ⟨g812, h⟩ := cki h
  refine m_bast X w q565 g811.1 g811.2.1 g811.2.2 g812 dX9_init_536 (fun V813 H locs eV813 w => ?_)
  replace h := bdi h _ eV813
  refine lv_dup hx hb dX9_init_537 rfl ?_
  refine lv_bipush (v := 82) hx hb dX9_init_538 (by decide) ?_
  refine lv_bipush (v := 111) hx hb dX9_init_540 (by decide) ?_
  obtain ⟨g814, h⟩ := cgi h
  have g814 := aaB_of g814
  obtain ⟨g815, h⟩ := cki h
  refine m_bast X w q565 g814.1 g814.2.1 g814.2.2 g815 dX9_init_542 (fun V816 H locs eV816 w => ?_)
  replace h := bdi h _ eV816
  refine lv_dup hx hb dX9_init_543 rfl ?_
  refine lv_bipush (v := 83) hx hb dX9_init_544 (by decide) ?_
  refine lv_bipush (v := 115) hx hb dX9_init_546 (by decide) ?_
  obtain ⟨g817, h⟩ := cgi h
  have g817 := aaB_of g817
  obtain ⟨g818, h⟩ := cki h
  refine m_bast X w q565 g817.1 g817.2.1 g817.2.2 g818 dX9_init_548 (fun V819 H locs eV819 w => ?_)
  replace h := bdi h _ eV819
  refine lv_dup hx hb dX9_init_549 rfl ?_
  refine lv_bipush (v := 84) hx hb dX9_init_550 (by decide) ?_
  refine lv_bipush (v := 115) hx hb dX9_init_552 (by decide) ?_
  obtain ⟨g820, h⟩ := cgi h
  have g820 := aaB_of g820
  obtain ⟨g821, h⟩ := cki h
  refine m_bast X w q565 g820.1 g820.2.1 g820.2.2 g821 dX9_init_554 (fun V822 H locs eV822 w => ?_)
  replace h := bdi h _ eV822
  refine lv_dup hx hb dX9_init_555 rfl ?_
  refine lv_bipush (v := 85) hx hb dX9_init_556 (by decide) ?_
  refine lv_bipush (v := 32) hx hb dX9_init_558 (by decide) ?_
  obtain ⟨g823, h⟩ := cgi h
  have g823 := aaB_of g823
  obtain ⟨g824, h⟩ := cki h
  refine m_bast X w q565 g823.1 g823.2.1 g823.2.2 g824 dX9_init_560 (fun V825 H locs eV825 w => ?_)
  replace h := bdi h _ eV825
  refine lv_dup hx hb dX9_init_561 rfl ?_
  refine lv_bipush (v := 86) hx hb dX9_init_562 (by decide) ?_
  refine lv_bipush (v := 100) hx hb dX9_init_564 (by decide) ?_
  obtain ⟨g826, h⟩ := cgi h
  have g826 := aaB_of g826
  obtain ⟨g827, h⟩ := cki h
  refine m_bast X w q565 g826.1 g826.2.1 g826.2.2 g827 dX9_init_566 (fun V828 H locs eV828 w => ?_)
  replace h := bdi h _ eV828
  refine lv_dup hx hb dX9_init_567 rfl ?_
  refine lv_bipush (v := 87) hx hb dX9_init_568 (by decide) ?_
  refine lv_bipush (v := 97) hx hb dX9_init_570 (by decide) ?_
  obtain ⟨g829, h⟩ := cgi h
  have g829 := aaB_of g829
  obtain ⟨g830, h⟩ := cki h
  refine m_bast X w q565 g829.1 g829.2.1 g829.2.2 g830 dX9_init_572 (fun V831 H locs eV831 w => ?_)
  replace h := bdi h _ eV831
  refine lv_dup hx hb dX9_init_573 rfl ?_
  refine lv_bipush (v := 88) hx hb dX9_init_574 (by decide) ?_
  refine lv_bipush (v := 121) hx hb dX9_init_576 (by decide) ?_
  obtain ⟨g832, h⟩ := cgi h
  have g832 := aaB_of g832
  obtain ⟨g833, h⟩ := cki h
  refine m_bast X w q565 g832.1 g832.2.1 g832.2.2 g833 dX9_init_578 (fun V834 H locs eV834 w => ?_)
  replace h := bdi h _ eV834
  refine lv_dup hx hb dX9_init_579 rfl ?_
  refine lv_bipush (v := 89) hx hb dX9_init_580 (by decide) ?_
  refine lv_bipush (v := 32) hx hb dX9_init_582 (by decide) ?_
  obtain ⟨g835, h⟩ := cgi h
  have g835 := aaB_of g835
  obtain ⟨g836, h⟩ := cki h
  refine m_bast X w q565 g835.1 g835.2.1 g835.2.2 g836 dX9_init_584 (fun V837 H locs eV837 w => ?_)
  replace h := bdi h _ eV837
  refine lv_dup hx hb dX9_init_585 rfl ?_
  refine lv_bipush (v := 90) hx hb dX9_init_586 (by decide) ?_
  refine lv_bipush (v := 100) hx hb dX9_init_588 (by decide) ?_
  obtain ⟨g838, h⟩ := cgi h
  have g838 := aaB_of g838
  obtain ⟨g839, h⟩ := cki h
  refine m_bast X w q565 g838.1 g838.2.1 g838.2.2 g839 dX9_init_590 (fun V840 H locs eV840 w => ?_)
  replace h := bdi h _ eV840
  refine lv_dup hx hb dX9_init_591 rfl ?_
  refine lv_bipush (v := 91) hx hb dX9_init_592 (by decide) ?_
  refine lv_bipush (v := 111) hx hb dX9_init_594 (by decide) ?_
  obtain ⟨g841, h⟩ := cgi h
  have g841 := aaB_of g841
  obtain ⟨g842, h⟩ := cki h
  refine m_bast X w q565 g841.1 g841.2.1 g841.2.2 g842 dX9_init_596 (fun V843 H locs eV843 w => ?_)
  replace h := bdi h _ eV843
  refine lv_dup hx hb dX9_init_597 rfl ?_
  refine lv_bipush (v := 92) hx hb dX9_init_598 (by decide) ?_
  refine lv_bipush (v := 110) hx hb dX9_init_600 (by decide) ?_
  obtain ⟨g844, h⟩ := cgi h
  have g844 := aaB_of g844
  obtain ⟨g845, h⟩ := cki h
  refine m_bast X w q565 g844.1 g844.2.1 g844.2.2 g845 dX9_init_602 (fun V846 H locs eV846 w => ?_)
  replace h := bdi h _ eV846
  refine lv_dup hx hb dX9_init_603 rfl ?_
  refine lv_bipush (v := 93) hx hb dX9_init_604 (by decide) ?_
  refine lv_bipush (v := 101) hx hb dX9_init_606 (by decide) ?_
  obtain ⟨g847, h⟩ := cgi h
  have g847 := aaB_of g847
  obtain ⟨g848, h⟩ := cki h
  refine m_bast X w q565 g847.1 g847.2.1 g847.2.2 g848 dX9_init_608 (fun V849 H locs eV849 w => ?_)
  replace h := bdi h _ eV849
  refine lv_dup hx hb dX9_init_609 rfl ?_
  refine lv_bipush (v := 94) hx hb dX9_init_610 (by decide) ?_
  refine lv_bipush (v := 32) hx hb dX9_init_612 (by decide) ?_
  obtain ⟨g850, h⟩ := cgi h
  have g850 := aaB_of g850
  obtain ⟨g851, h⟩ := cki h
  refine m_bast X w q565 g850.1 g850.2.1 g850.2.2 g851 dX9_init_614 (fun V852 H locs eV852 w => ?_)
  replace h := bdi h _ eV852
  refine lv_dup hx hb dX9_init_615 rfl ?_
  refine lv_bipush (v := 95) hx hb dX9_init_616 (by decide) ?_
  refine lv_bipush (v := 108) hx hb dX9_init_618 (by decide) ?_
  obtain ⟨g853, h⟩ := cgi h
  have g853 := aaB_of g853
  obtain ⟨g854, h⟩ := cki h
  refine m_bast X w q565 g853.1 g853.2.1 g853.2.2 g854 dX9_init_620 (fun V855 H locs eV855 w => ?_)
  replace h := bdi h _ eV855
  refine lv_dup hx hb dX9_init_621 rfl ?_
  refine lv_bipush (v := 96) hx hb dX9_init_622 (by decide) ?_
  refine lv_bipush (v := 97) hx hb dX9_init_624 (by decide) ?_
  obtain ⟨g856, h⟩ := cgi h
  have g856 := aaB_of g856
  obtain ⟨g857, h⟩ := cki h
  refine m_bast X w q565 g856.1 g856.2.1 g856.2.2 g857 dX9_init_626 (fun V858 H locs eV858 w => ?_)
  replace h := bdi h _ eV858
  refine lv_dup hx hb dX9_init_627 rfl ?_
  refine lv_bipush (v := 97) hx hb dX9_init_628 (by decide) ?_
  refine lv_bipush (v := 116) hx hb dX9_init_630 (by decide) ?_
  obtain ⟨g859, h⟩ := cgi h
  have g859 := aaB_of g859
  obtain ⟨g860, h⟩ := cki h
  refine m_bast X w q565 g859.1 g859.2.1 g859.2.2 g860 dX9_init_632 (fun V861 H locs eV861 w => ?_)
  replace h := bdi h _ eV861
  refine lv_dup hx hb dX9_init_633 rfl ?_
  refine lv_bipush (v := 98) hx hb dX9_init_634 (by decide) ?_
  refine lv_bipush (v := 101) hx hb dX9_init_636 (by decide) ?_
  obtain ⟨g862, h⟩ := cgi h
  have g862 := aaB_of g862
  obtain ⟨g863, h⟩ := cki h
  refine m_bast X w q565 g862.1 g862.2.1 g862.2.2 g863 dX9_init_638 (fun V864 H locs eV864 w => ?_)
  replace h := bdi h _ eV864
  refine lv_dup hx hb dX9_init_639 rfl ?_
  refine lv_bipush (v := 99) hx hb dX9_init_640 (by decide) ?_
  refine lv_bipush (v := 115) hx hb dX9_init_642 (by decide) ?_
  obtain ⟨g865, h⟩ := cgi h
  have g865 := aaB_of g865
  obtain ⟨g866, h⟩ := cki h
  refine m_bast X w q565 g865.1 g865.2.1 g865.2.2 g866 dX9_init_644 (fun V867 H locs eV867 w => ?_)
  replace h := bdi h _ eV867
  refine lv_dup hx hb dX9_init_645 rfl ?_
  refine lv_bipush (v := 100) hx hb dX9_init_646 (by decide) ?_
  refine lv_bipush (v := 116) hx hb dX9_init_648 (by decide) ?_
  obtain ⟨g868, h⟩ := cgi h
  have g868 := aaB_of g868
  obtain ⟨g869, h⟩ := cki h
  refine m_bast X w q565 g868.1 g868.2.1 g868.2.2 g869 dX9_init_650 (fun V870 H locs eV870 w => ?_)
  replace h := bdi h _ eV870
  refine lv_dup hx hb dX9_init_651 rfl ?_
  refine lv_bipush (v := 101) hx hb dX9_init_652 (by decide) ?_
  refine lv_bipush (v := 32) hx hb dX9_init_654 (by decide) ?_
  obtain ⟨g871, h⟩ := cgi h
  have g871 := aaB_of g871
  obtain ⟨g872, h⟩ := cki h
  refine m_bast X w q565 g871.1 g871.2.1 g871.2.2 g872 dX9_init_656 (fun V873 H locs eV873 w => ?_)
  replace h := bdi h _ eV873
  refine lv_dup hx hb dX9_init_657 rfl ?_
  refine lv_bipush (v := 102) hx hb dX9_init_658 (by decide) ?_
  refine lv_bipush (v := 104) hx hb dX9_init_660 (by decide) ?_
  obtain ⟨g874, h⟩ := cgi h
  have g874 := aaB_of g874
  obtain ⟨g875, h⟩ := cki h
  refine m_bast X w q565 g874.1 g874.2.1 g874.2.2 g875 dX9_init_662 (fun V876 H locs eV876 w => ?_)
  replace h := bdi h _ eV876
  refine lv_dup hx hb dX9_init_663 rfl ?_
  refine lv_bipush (v := 103) hx hb dX9_init_664 (by decide) ?_
  refine lv_bipush (v := 97) hx hb dX9_init_666 (by decide) ?_
  obtain ⟨g877, h⟩ := cgi h
  have g877 := aaB_of g877
  obtain ⟨g878, h⟩ := cki h
  refine m_bast X w q565 g877.1 g877.2.1 g877.2.2 g878 dX9_init_668 (fun V879 H locs eV879 w => ?_)
  replace h := bdi h _ eV879
  refine lv_dup hx hb dX9_init_669 rfl ?_
  refine lv_bipush (v := 104) hx hb dX9_init_670 (by decide) ?_
  refine lv_bipush (v := 110) hx hb dX9_init_672 (by decide) ?_
  obtain ⟨g880, h⟩ := cgi h
  have g880 := aaB_of g880
  obtain ⟨g881, h⟩ := cki h
  refine m_bast X w q565 g880.1 g880.2.1 g880.2.2 g881 dX9_init_674 (fun V882 H locs eV882 w => ?_)
  replace h := bdi h _ eV882
  refine lv_dup hx hb dX9_init_675 rfl ?_
  refine lv_bipush (v := 105) hx hb dX9_init_676 (by decide) ?_
  refine lv_bipush (v := 100) hx hb dX9_init_678 (by decide) ?_
  obtain ⟨g883, h⟩ := cgi h
  have g883 := aaB_of g883
  obtain ⟨g884, h⟩ := cki h
  refine m_bast X w q565 g883.1 g883.2.1 g883.2.2 g884 dX9_init_680 (fun V885 H locs eV885 w => ?_)
  replace h := bdi h _ eV885
  refine lv_dup hx hb dX9_init_681 rfl ?_
  refine lv_bipush (v := 106) hx hb dX9_init_682 (by decide) ?_
  refine lv_bipush (v := 32) hx hb dX9_init_684 (by decide) ?_
  obtain ⟨g886, h⟩ := cgi h
  have g886 := aaB_of g886
  obtain ⟨g887, h⟩ := cki h
  refine m_bast X w q565 g886.1 g886.2.1 g886.2.2 g887 dX9_init_686 (fun V888 H locs eV888 w => ?_)
  replace h := bdi h _ eV888
  refine lv_dup hx hb dX9_init_687 rfl ?_
  refine lv_bipush (v := 107) hx hb dX9_init_688 (by decide) ?_
  refine lv_bipush (v := 116) hx hb dX9_init_690 (by decide) ?_
  obtain ⟨g889, h⟩ := cgi h
  have g889 := aaB_of g889
  obtain ⟨g890, h⟩ := cki h
  refine m_bast X w q565 g889.1 g889.2.1 g889.2.2 g890 dX9_init_692 (fun V891 H locs eV891 w => ?_)
  replace h := bdi h _ eV891
  refine lv_dup hx hb dX9_init_693 rfl ?_
  refine lv_bipush (v := 108) hx hb dX9_init_694 (by decide) ?_
  refine lv_bipush (v := 97) hx hb dX9_init_696 (by decide) ?_
  obtain ⟨g892, h⟩ := cgi h
  have g892 := aaB_of g892
  obtain ⟨g893, h⟩ := cki h
  refine m_bast X w q565 g892.1 g892.2.1 g892.2.2 g893 dX9_init_698 (fun V894 H locs eV894 w => ?_)
  replace h := bdi h _ eV894
  refine lv_dup hx hb dX9_init_699 rfl ?_
  refine lv_bipush (v := 109) hx hb dX9_init_700 (by decide) ?_
  refine lv_bipush (v := 107) hx hb dX9_init_702 (by decide) ?_
  obtain ⟨g895, h⟩ := cgi h
  have g895 := aaB_of g895
  obtain ⟨g896, h⟩ := cki h
  refine m_bast X w q565 g895.1 g895.2.1 g895.2.2 g896 dX9_init_704 (fun V897 H locs eV897 w => ?_)
  replace h := bdi h _ eV897
  refine lv_dup hx hb dX9_init_705 rfl ?_
  refine lv_bipush (v := 110) hx hb dX9_init_706 (by decide) ?_
  refine lv_bipush (v := 101) hx hb dX9_init_708 (by decide) ?_
  obtain ⟨g898, h⟩ := cgi h
  have g898 := aaB_of g898
  obtain ⟨g899, h⟩ := cki h
  refine m_bast X w q565 g898.1 g898.2.1 g898.2.2 g899 dX9_init_710 (fun V900 H locs eV900 w => ?_)
  replace h := bdi h _ eV900
  refine lv_dup hx hb dX9_init_711 rfl ?_
  refine lv_bipush (v := 111) hx hb dX9_init_712 (by decide) ?_
  refine lv_bipush (v := 32) hx hb dX9_init_714 (by decide) ?_
  obtain ⟨g901, h⟩ := cgi h
  have g901 := aaB_of g901
  obtain ⟨g902, h⟩ := cki h
  refine m_bast X w q565 g901.1 g901.2.1 g901.2.2 g902 dX9_init_716 (fun V903 H locs eV903 w => ?_)
  replace h := bdi h _ eV903
  refine lv_dup hx hb dX9_init_717 rfl ?_
  refine lv_bipush (v := 112) hx hb dX9_init_718 (by decide) ?_
  refine lv_bipush (v := 98) hx hb dX9_init_720 (by decide) ?_
  obtain ⟨g904, h⟩ := cgi h
  have g904 := aaB_of g904
  obtain ⟨g905, h⟩ := cki h
  refine m_bast X w q565 g904.1 g904.2.1 g904.2.2 g905 dX9_init_722 (fun V906 H locs eV906 w => ?_)
  replace h := bdi h _ eV906
  refine lv_dup hx hb dX9_init_723 rfl ?_
  refine lv_bipush (v := 113) hx hb dX9_init_724 (by decide) ?_
  refine lv_bipush (v := 121) hx hb dX9_init_726 (by decide) ?_
  obtain ⟨g907, h⟩ := cgi h
  have g907 := aaB_of g907
  obtain ⟨g908, h⟩ := cki h
  refine m_bast X w q565 g907.1 g907.2.1 g907.2.2 g908 dX9_init_728 (fun V909 H locs eV909 w => ?_)
  replace h := bdi h _ eV909
  refine lv_dup hx hb dX9_init_729 rfl ?_
  refine lv_bipush (v := 114) hx hb dX9_init_730 (by decide) ?_
  refine lv_bipush (v := 32) hx hb dX9_init_732 (by decide) ?_
  obtain ⟨g910, h⟩ := cgi h
  have g910 := aaB_of g910
  obtain ⟨g911, h⟩ := cki h
  refine m_bast X w q565 g910.1 g910.2.1 g910.2.2 g911 dX9_init_734 (fun V912 H locs eV912 w => ?_)
  replace h := bdi h _ eV912
  refine lv_dup hx hb dX9_init_735 rfl ?_
  refine lv_bipush (v := 115) hx hb dX9_init_736 (by decide) ?_
  refine lv_bipush (v := 115) hx hb dX9_init_738 (by decide) ?_
  obtain ⟨g913, h⟩ := cgi h
  have g913 := aaB_of g913
  obtain ⟨g914, h⟩ := cki h
  refine m_bast X w q565 g913.1 g913.2.1 g913.2.2 g914 dX9_init_740 (fun V915 H locs eV915 w => ?_)
  replace h := bdi h _ eV915
  refine lv_dup hx hb dX9_init_741 rfl ?_
  refine lv_bipush (v := 116) hx hb dX9_init_742 (by decide) ?_
  refine lv_bipush (v := 104) hx hb dX9_init_744 (by decide) ?_
  obtain ⟨g916, h⟩ := cgi h
  have g916 := aaB_of g916
  obtain ⟨g917, h⟩ := cki h
  refine m_bast X w q565 g916.1 g916.2.1 g916.2.2 g917 dX9_init_746 (fun V918 H locs eV918 w => ?_)
  replace h := bdi h _ eV918
  refine lv_dup hx hb dX9_init_747 rfl ?_
  refine lv_bipush (v := 117) hx hb dX9_init_748 (by decide) ?_
  refine lv_bipush (v := 105) hx hb dX9_init_750 (by decide) ?_
  obtain ⟨g919, h⟩ := cgi h
  have g919 := aaB_of g919
  obtain ⟨g920, h⟩ := cki h
  refine m_bast X w q565 g919.1 g919.2.1 g919.2.2 g920 dX9_init_752 (fun V921 H locs eV921 w => ?_)
  replace h := bdi h _ eV921
  refine lv_dup hx hb dX9_init_753 rfl ?_
  refine lv_bipush (v := 118) hx hb dX9_init_754 (by decide) ?_
  refine lv_bipush (v := 102) hx hb dX9_init_756 (by decide) ?_
  obtain ⟨g922, h⟩ := cgi h
  have g922 := aaB_of g922
  obtain ⟨g923, h⟩ := cki h
  refine m_bast X w q565 g922.1 g922.2.1 g922.2.2 g923 dX9_init_758 (fun V924 H locs eV924 w => ?_)
  replace h := bdi h _ eV924
  refine lv_dup hx hb dX9_init_759 rfl ?_
  refine lv_bipush (v := 119) hx hb dX9_init_760 (by decide) ?_
  refine lv_bipush (v := 116) hx hb dX9_init_762 (by decide) ?_
  obtain ⟨g925, h⟩ := cgi h
  have g925 := aaB_of g925
  obtain ⟨g926, h⟩ := cki h
  refine m_bast X w q565 g925.1 g925.2.1 g925.2.2 g926 dX9_init_764 (fun V927 H locs eV927 w => ?_)
  replace h := bdi h _ eV927
  refine lv_dup hx hb dX9_init_765 rfl ?_
  refine lv_bipush (v := 120) hx hb dX9_init_766 (by decide) ?_
  refine lv_bipush (v := 32) hx hb dX9_init_768 (by decide) ?_
  obtain ⟨g928, h⟩ := cgi h
  have g928 := aaB_of g928
  obtain ⟨g929, h⟩ := cki h
  refine m_bast X w q565 g928.1 g928.2.1 g928.2.2 g929 dX9_init_770 (fun V930 H locs eV930 w => ?_)
  replace h := bdi h _ eV930
  refine lv_dup hx hb dX9_init_771 rfl ?_
  refine lv_bipush (v := 121) hx hb dX9_init_772 (by decide) ?_
  refine lv_bipush (v := 116) hx hb dX9_init_774 (by decide) ?_
  obtain ⟨g931, h⟩ := cgi h
  have g931 := aaB_of g931
  obtain ⟨g932, h⟩ := cki h
  refine m_bast X w q565 g931.1 g931.2.1 g931.2.2 g932 dX9_init_776 (fun V933 H locs eV933 w => ?_)
  replace h := bdi h _ eV933
  refine lv_dup hx hb dX9_init_777 rfl ?_
  refine lv_bipush (v := 122) hx hb dX9_init_778 (by decide) ?_
  refine lv_bipush (v := 111) hx hb dX9_init_780 (by decide) ?_
  obtain ⟨g934, h⟩ := cgi h
  have g934 := aaB_of g934
  obtain ⟨g935, h⟩ := cki h
  refine m_bast X w q565 g934.1 g934.2.1 g934.2.2 g935 dX9_init_782 (fun V936 H locs eV936 w => ?_)
  replace h := bdi h _ eV936
  refine lv_dup hx hb dX9_init_783 rfl ?_
  refine lv_bipush (v := 123) hx hb dX9_init_784 (by decide) ?_
  refine lv_bipush (v := 32) hx hb dX9_init_786 (by decide) ?_
  obtain ⟨g937, h⟩ := cgi h
  have g937 := aaB_of g937
  obtain ⟨g938, h⟩ := cki h
  refine m_bast X w q565 g937.1 g937.2.1 g937.2.2 g938 dX9_init_788 (fun V939 H locs eV939 w => ?_)
  replace h := bdi h _ eV939
  refine lv_dup hx hb dX9_init_789 rfl ?_
  refine lv_bipush (v := 124) hx hb dX9_init_790 (by decide) ?_
  refine lv_bipush (v := 111) hx hb dX9_init_792 (by decide) ?_
  obtain ⟨g940, h⟩ := cgi h
  have g940 := aaB_of g940
  obtain ⟨g941, h⟩ := cki h
  refine m_bast X w q565 g940.1 g940.2.1 g940.2.2 g941 dX9_init_794 (fun V942 H locs eV942 w => ?_)
  replace h := bdi h _ eV942
  refine lv_dup hx hb dX9_init_795 rfl ?_
  refine lv_bipush (v := 125) hx hb dX9_init_796 (by decide) ?_
  refine lv_bipush (v := 102) hx hb dX9_init_798 (by decide) ?_
  obtain ⟨g943, h⟩ := cgi h
  have g943 := aaB_of g943
  obtain ⟨g944, h⟩ := cki h
  refine m_bast X w q565 g943.1 g943.2.1 g943.2.2 g944 dX9_init_800 (fun V945 H locs eV945 w => ?_)
  replace h := bdi h _ eV945
  refine lv_dup hx hb dX9_init_801 rfl ?_
  refine lv_bipush (v := 126) hx hb dX9_init_802 (by decide) ?_
  refine lv_bipush (v := 32) hx hb dX9_init_804 (by decide) ?_
  obtain ⟨g946, h⟩ := cgi h
  have g946 := aaB_of g946
  obtain ⟨g947, h⟩ := cki h
  refine m_bast X w q565 g946.1 g946.2.1 g946.2.2 g947 dX9_init_806 (fun V948 H locs eV948 w => ?_)
  replace h := bdi h _ eV948
  refine lv_dup hx hb dX9_init_807 rfl ?_
  refine lv_bipush (v := 127) hx hb dX9_init_808 (by decide) ?_
  refine lv_bipush (v := 102) hx hb dX9_init_810 (by decide) ?_
  obtain ⟨g949, h⟩ := cgi h
  have g949 := aaB_of g949
  obtain ⟨g950, h⟩ := cki h
  refine m_bast X w q565 g949.1 g949.2.1 g949.2.2 g950 dX9_init_812 (fun V951 H locs eV951 w => ?_)
  replace h := bdi h _ eV951
  refine lv_dup hx hb dX9_init_813 rfl ?_
  refine lv_sipush (v := 128) hx hb dX9_init_814 (by decide) ?_
  refine lv_bipush (v := 101) hx hb dX9_init_817 (by decide) ?_
  obtain ⟨g952, h⟩ := cgi h
  have g952 := aaB_of g952
  obtain ⟨g953, h⟩ := cki h
  refine m_bast X w q565 g952.1 g952.2.1 g952.2.2 g953 dX9_init_819 (fun V954 H locs eV954 w => ?_)
  replace h := bdi h _ eV954
  refine lv_dup hx hb dX9_init_820 rfl ?_
  refine lv_sipush (v := 129) hx hb dX9_init_821 (by decide) ?_
  refine lv_bipush (v := 110) hx hb dX9_init_824 (by decide) ?_
  obtain ⟨g955, h⟩ := cgi h
  have g955 := aaB_of g955
  obtain ⟨g956, h⟩ := cki h
  refine m_bast X w q565 g955.1 g955.2.1 g955.2.2 g956 dX9_init_826 (fun V957 H locs eV957 w => ?_)
  replace h := bdi h _ eV957
  refine lv_dup hx hb dX9_init_827 rfl ?_
  refine lv_sipush (v := 130) hx hb dX9_init_828 (by decide) ?_
  refine lv_bipush (v := 99) hx hb dX9_init_831 (by decide) ?_
  obtain ⟨g958, h⟩ := cgi h
  have g958 := aaB_of g958
  obtain ⟨g959, h⟩ := cki h
  refine m_bast X w q565 g958.1 g958.2.1 g958.2.2 g959 dX9_init_833 (fun V960 H locs eV960 w => ?_)
  replace h := bdi h _ eV960
  refine lv_dup hx hb dX9_init_834 rfl ?_
  refine lv_sipush (v := 131) hx hb dX9_init_835 (by decide) ?_
  refine lv_bipush (v := 101) hx hb dX9_init_838 (by decide) ?_
  obtain ⟨g961, h⟩ := cgi h
  have g961 := aaB_of g961
  obtain ⟨g962, h⟩ := cki h
  refine m_bast X w q565 g961.1 g961.2.1 g961.2.2 g962 dX9_init_840 (fun V963 H locs eV963 w => ?_)
  replace h := bdi h _ eV963
  refine lv_dup hx hb dX9_init_841 rfl ?_
  refine lv_sipush (v := 132) hx hb dX9_init_842 (by decide) ?_
  refine lv_bipush (v := 32) hx hb dX9_init_845 (by decide) ?_
  obtain ⟨g964, h⟩ := cgi h
  have g964 := aaB_of g964
  obtain ⟨g965, h⟩ := cki h
  refine m_bast X w q565 g964.1 g964.2.1 g964.2.2 g965 dX9_init_847 (fun V966 H locs eV966 w => ?_)
  replace h := bdi h _ eV966
  refine lv_dup hx hb dX9_init_848 rfl ?_
  refine lv_sipush (v := 133) hx hb dX9_init_849 (by decide) ?_
  refine lv_bipush (v := 112) hx hb dX9_init_852 (by decide) ?_
  obtain ⟨g967, h⟩ := cgi h
  have g967 := aaB_of g967
  obtain ⟨g968, h⟩ := cki h
  refine m_bast X w q565 g967.1 g967.2.1 g967.2.2 g968 dX9_init_854 (fun V969 H locs eV969 w => ?_)
  replace h := bdi h _ eV969
  refine lv_dup hx hb dX9_init_855 rfl ?_
  refine lv_sipush (v := 134) hx hb dX9_init_856 (by decide) ?_
  refine lv_bipush (v := 97) hx hb dX9_init_859 (by decide) ?_
  obtain ⟨g970, h⟩ := cgi h
  have g970 := aaB_of g970
  obtain ⟨g971, h⟩ := cki h
  refine m_bast X w q565 g970.1 g970.2.1 g970.2.2 g971 dX9_init_861 (fun V972 H locs eV972 w => ?_)
  replace h := bdi h _ eV972
  refine lv_dup hx hb dX9_init_862 rfl ?_
  refine lv_sipush (v := 135) hx hb dX9_init_863 (by decide) ?_
  refine lv_bipush (v := 115) hx hb dX9_init_866 (by decide) ?_
  obtain ⟨g973, h⟩ := cgi h
  have g973 := aaB_of g973
  obtain ⟨g974, h⟩ := cki h
  refine m_bast X w q565 g973.1 g973.2.1 g973.2.2 g974 dX9_init_868 (fun V975 H locs eV975 w => ?_)
  replace h := bdi h _ eV975
  refine lv_dup hx hb dX9_init_869 rfl ?_
  refine lv_sipush (v := 136) hx hb dX9_init_870 (by decide) ?_
  refine lv_bipush (v := 115) hx hb dX9_init_873 (by decide) ?_
  obtain ⟨g976, h⟩ := cgi h
  have g976 := aaB_of g976
  obtain ⟨g977, h⟩ := cki h
  refine m_bast X w q565 g976.1 g976.2.1 g976.2.2 g977 dX9_init_875 (fun V978 H locs eV978 w => ?_)
  replace h := bdi h _ eV978
  refine lv_dup hx hb dX9_init_876 rfl ?_
  refine lv_sipush (v := 137) hx hb dX9_init_877 (by decide) ?_
  refine lv_bipush (v := 32) hx hb dX9_init_880 (by decide) ?_
  obtain ⟨g979, h⟩ := cgi h
  have g979 := aaB_of g979
  obtain ⟨g980, h⟩ := cki h
  refine m_bast X w q565 g979.1 g979.2.1 g979.2.2 g980 dX9_init_882 (fun V981 H locs eV981 w => ?_)
  replace h := bdi h _ eV981
  refine lv_dup hx hb dX9_init_883 rfl ?_
  refine lv_sipush (v := 138) hx hb dX9_init_884 (by decide) ?_
  refine lv_bipush (v := 116) hx hb dX9_init_887 (by decide) ?_
  obtain ⟨g982, h⟩ := cgi h
  have g982 := aaB_of g982
  obtain ⟨g983, h⟩ := cki h
  refine m_bast X w q565 g982.1 g982.2.1 g982.2.2 g983 dX9_init_889 (fun V984 H locs eV984 w => ?_)
  replace h := bdi h _ eV984
  refine lv_dup hx hb dX9_init_890 rfl ?_
  refine lv_sipush (v := 139) hx hb dX9_init_891 (by decide) ?_
  refine lv_bipush (v := 105) hx hb dX9_init_894 (by decide) ?_
  obtain ⟨g985, h⟩ := cgi h
  have g985 := aaB_of g985
  obtain ⟨g986, h⟩ := cki h
  refine m_bast X w q565 g985.1 g985.2.1 g985.2.2 g986 dX9_init_896 (fun V987 H locs eV987 w => ?_)
  replace h := bdi h _ eV987
  refine lv_dup hx hb dX9_init_897 rfl ?_
  refine lv_sipush (v := 140) hx hb dX9_init_898 (by decide) ?_
  refine lv_bipush (v := 109) hx hb dX9_init_901 (by decide) ?_
  obtain ⟨g988, h⟩ := cgi h
  have g988 := aaB_of g988
  obtain ⟨g989, h⟩ := cki h
  refine m_bast X w q565 g988.1 g988.2.1 g988.2.2 g989 dX9_init_903 (fun V990 H locs eV990 w => ?_)
  replace h := bdi h _ eV990
  refine lv_dup hx hb dX9_init_904 rfl ?_
  refine lv_sipush (v := 141) hx hb dX9_init_905 (by decide) ?_
  refine lv_bipush (v := 101) hx hb dX9_init_908 (by decide) ?_
  obtain ⟨g991, h⟩ := cgi h
  have g991 := aaB_of g991
  obtain ⟨g992, h⟩ := cki h
  refine m_bast X w q565 g991.1 g991.2.1 g991.2.2 g992 dX9_init_910 (fun V993 H locs eV993 w => ?_)
  replace h := bdi h _ eV993
  refine lv_dup hx hb dX9_init_911 rfl ?_
  refine lv_sipush (v := 142) hx hb dX9_init_912 (by decide) ?_
  refine lv_bipush (v := 115) hx hb dX9_init_915 (by decide) ?_
  obtain ⟨g994, h⟩ := cgi h
  have g994 := aaB_of g994
  obtain ⟨g995, h⟩ := cki h
  refine m_bast X w q565 g994.1 g994.2.1 g994.2.2 g995 dX9_init_917 (fun V996 H locs eV996 w => ?_)
  replace h := bdi h _ eV996
  refine lv_dup hx hb dX9_init_918 rfl ?_
  refine lv_sipush (v := 143) hx hb dX9_init_919 (by decide) ?_
  refine lv_bipush (v := 32) hx hb dX9_init_922 (by decide) ?_
  obtain ⟨g997, h⟩ := cgi h
  have g997 := aaB_of g997
  obtain ⟨g998, h⟩ := cki h
  refine m_bast X w q565 g997.1 g997.2.1 g997.2.2 g998 dX9_init_924 (fun V999 H locs eV999 w => ?_)
  replace h := bdi h _ eV999
  obtain ⟨g1000, h⟩ := cgi h
  have g1000 := ooB_of g1000
  refine m_putR X w o g1000.1 g1000.2 ci9 7 (by decide) rfl rfl rfl rfl hnm rfl rfl fl_X9_41 dX9_init_925 (fun S H locs eS w => ?_)
  replace h := bdi h _ eS
  refine lv_aload_n hx hb dX9_init_928 rfl (lv_at hl 0 rfl) ?_
  refine lv_sipush (v := 400) hx hb dX9_init_929 (by decide) ?_
  obtain ⟨g1002, h⟩ := cgi h
  have g1002 := beq_iff_eq.mp g1002
  obtain ⟨q1001, eq1001⟩ : ∃ y : Nat, y = S.1 := ⟨_, rfl⟩
  replace h := bdi h _ eq1001
  refine m_newa (N' := 400) X w g1002 (atype := .byte) rfl 10 0 rfl na_byte rfl nv_byte ac_byte (by decide) (by decide) (Nat.le_of_ble_eq_true rfl) (Nat.le_of_ble_eq_true rfl) (Nat.le_of_ble_eq_true rfl) dX9_init_932 (fun S V1003 H locs eS eV1003 w => ?_)
  rw [← eq1001] at eV1003 ⊢
  replace h := bdi h _ eS
  replace h := bdi h _ eV1003
  refine W.widen (k := 7) (n := 17762) (Nat.le_of_ble_eq_true rfl) (Nat.le_of_ble_eq_true rfl) ?_
  obtain ⟨g1004, h⟩ := cgi h
  have g1004 := ooB_of g1004
  refine m_putR X w o g1004.1 g1004.2 ci9 11 (by decide) rfl rfl rfl rfl hnm rfl rfl fl_X9_45 dX9_init_934 (fun S H locs eS w => ?_)
  replace h := bdi h _ eS
  refine lv_aload_n hx hb dX9_init_937 rfl (lv_at hl 0 rfl) ?_
  refine lv_iconst (v := 5) hx hb dX9_init_938 (by decide) ?_
  obtain ⟨g1006, h⟩ := cgi h
  have g1006 := beq_iff_eq.mp g1006
  obtain ⟨q1005, eq1005⟩ : ∃ y : Nat, y = S.1 := ⟨_, rfl⟩
  replace h := bdi h _ eq1005
  refine m_newa (N' := 5) X w g1006 (atype := .int) rfl 11 1 rfl na_int rfl nv_int ac_int (by decide) (by decide) (Nat.le_of_ble_eq_true rfl) (Nat.le_of_ble_eq_true rfl) (Nat.le_of_ble_eq_true rfl) dX9_init_939 (fun S V1007 H locs eS eV1007 w => ?_)
  rw [← eq1005] at eV1007 ⊢
  replace h := bdi h _ eS
  replace h := bdi h _ eV1007
  refine W.widen (k := 8) (n := 17767) (Nat.le_of_ble_eq_true rfl) (Nat.le_of_ble_eq_true rfl) ?_
  obtain ⟨g1008, h⟩ := cgi h
  have g1008 := ooB_of g1008
  refine m_putR X w o g1008.1 g1008.2 ci9 12 (by decide) rfl rfl rfl rfl hnm rfl rfl fl_X9_48 dX9_init_941 (fun S H locs eS w => ?_)
  replace h := bdi h _ eS
  refine lv_aload_n hx hb dX9_init_944 rfl (lv_at hl 0 rfl) ?_
  refine lv_iconst (v := (-1)) hx hb dX9_init_945 (by decide) ?_
  obtain ⟨g1009, h⟩ := cgi h
  have g1009 := ooB_of g1009
  refine m_put X w o g1009.1 g1009.2 ci9 14 (by decide) rfl rfl rfl rfl rfl fl_X9_51 dX9_init_946 (fun V1010 H locs eV1010 w => ?_)
  replace h := bdi h _ eV1010
  refine lv_aload_n hx hb dX9_init_949 rfl (lv_at hl 0 rfl) ?_
  refine lv_sipush (v := 401) hx hb dX9_init_950 (by decide) ?_
  obtain ⟨g1012, h⟩ := cgi h
  have g1012 := beq_iff_eq.mp g1012
  obtain ⟨q1011, eq1011⟩ : ∃ y : Nat, y = S.1 := ⟨_, rfl⟩
  replace h := bdi h _ eq1011
  refine m_newa (N' := 401) X w g1012 (atype := .int) rfl 11 1 rfl na_int rfl nv_int ac_int (by decide) (by decide) (Nat.le_of_ble_eq_true rfl) (Nat.le_of_ble_eq_true rfl) (Nat.le_of_ble_eq_true rfl) dX9_init_953 (fun S V1013 H locs eS eV1013 w => ?_)
  rw [← eq1011] at eV1013 ⊢
  replace h := bdi h _ eS
  replace h := bdi h _ eV1013
  refine W.widen (k := 9) (n := 18168) (Nat.le_of_ble_eq_true rfl) (Nat.le_of_ble_eq_true rfl) ?_
  obtain ⟨g1014, h⟩ := cgi h
  have g1014 := ooB_of g1014
  refine m_putR X w o g1014.1 g1014.2 ci9 15 (by decide) rfl rfl rfl rfl hnm rfl rfl fl_X9_54 dX9_init_955 (fun S H locs eS w => ?_)
  replace h := bdi h _ eS
  refine lv_aload_n hx hb dX9_init_958 rfl (lv_at hl 0 rfl) ?_
  refine lv_sipush (v := 401) hx hb dX9_init_959 (by decide) ?_
  obtain ⟨g1016, h⟩ := cgi h
  have g1016 := beq_iff_eq.mp g1016
  obtain ⟨q1015, eq1015⟩ : ∃ y : Nat, y = S.1 := ⟨_, rfl⟩
  replace h := bdi h _ eq1015
  refine m_newa (N' := 401) X w g1016 (atype := .int) rfl 11 1 rfl na_int rfl nv_int ac_int (by decide) (by decide) (Nat.le_of_ble_eq_true rfl) (Nat.le_of_ble_eq_true rfl) (Nat.le_of_ble_eq_true rfl) dX9_init_962 (fun S V1017 H locs eS eV1017 w => ?_)
  rw [← eq1015] at eV1017 ⊢
  replace h := bdi h _ eS
  replace h := bdi h _ eV1017
  refine W.widen (k := 10) (n := 18569) (Nat.le_of_ble_eq_true rfl) (Nat.le_of_ble_eq_true rfl) ?_
  obtain ⟨g1018, h⟩ := cgi h
  have g1018 := ooB_of g1018
  refine m_putR X w o g1018.1 g1018.2 ci9 16 (by decide) rfl rfl rfl rfl hnm rfl rfl fl_X9_57 dX9_init_964 (fun S H locs eS w => ?_)
  replace h := bdi h _ eS
  refine lv_aload_n hx hb dX9_init_967 rfl (lv_at hl 0 rfl) ?_
  refine lv_sipush (v := 401) hx hb dX9_init_968 (by decide) ?_
  obtain ⟨g1020, h⟩ := cgi h
  have g1020 := beq_iff_eq.mp g1020
  obtain ⟨q1019, eq1019⟩ : ∃ y : Nat, y = S.1 := ⟨_, rfl⟩
  replace h := bdi h _ eq1019
  refine m_newa (N' := 401) X w g1020 (atype := .int) rfl 11 1 rfl na_int rfl nv_int ac_int (by decide) (by decide) (Nat.le_of_ble_eq_true rfl) (Nat.le_of_ble_eq_true rfl) (Nat.le_of_ble_eq_true rfl) dX9_init_971 (fun S V1021 H locs eS eV1021 w => ?_)
  rw [← eq1019] at eV1021 ⊢
  replace h := bdi h _ eS
  replace h := bdi h _ eV1021
  refine W.widen (k := 11) (n := 18970) (Nat.le_of_ble_eq_true rfl) (Nat.le_of_ble_eq_true rfl) ?_
  obtain ⟨g1022, h⟩ := cgi h
  have g1022 := ooB_of g1022
  refine m_putR X w o g1022.1 g1022.2 ci9 17 (by decide) rfl rfl rfl rfl hnm rfl rfl fl_X9_60 dX9_init_973 (fun S H locs eS w => ?_)
  replace h := bdi h _ eS
  refine lv_aload_n hx hb dX9_init_976 rfl (lv_at hl 0 rfl) ?_
  refine lv_bipush (v := 10) hx hb dX9_init_977 (by decide) ?_
  obtain ⟨g1024, h⟩ := cgi h
  have g1024 := beq_iff_eq.mp g1024
  obtain ⟨q1023, eq1023⟩ : ∃ y : Nat, y = S.1 := ⟨_, rfl⟩
  replace h := bdi h _ eq1023
  refine m_newa (N' := 10) X w g1024 (atype := .int) rfl 11 1 rfl na_int rfl nv_int ac_int (by decide) (by decide) (Nat.le_of_ble_eq_true rfl) (Nat.le_of_ble_eq_true rfl) (Nat.le_of_ble_eq_true rfl) dX9_init_979 (fun S V1025 H locs eS eV1025 w => ?_)
  rw [← eq1023] at eV1025 ⊢
  replace h := bdi h _ eS
  replace h := bdi h _ eV1025
  refine W.widen (k := 12) (n := 18980) (Nat.le_of_ble_eq_true rfl) (Nat.le_of_ble_eq_true rfl) ?_
  obtain ⟨g1026, h⟩ := cgi h
  have g1026 := ooB_of g1026
  refine m_putR X w o g1026.1 g1026.2 ci9 26 (by decide) rfl rfl rfl rfl hnm rfl rfl fl_X9_63 dX9_init_981 (fun S H locs eS w => ?_)
  replace h := bdi h _ eS
  refine lv_aload_n hx hb dX9_init_984 rfl (lv_at hl 0 rfl) ?_
  refine lv_sipush (v := 528) hx hb dX9_init_985 (by decide) ?_
  obtain ⟨g1028, h⟩ := cgi h
  have g1028 := beq_iff_eq.mp g1028
  obtain ⟨q1027, eq1027⟩ : ∃ y : Nat, y = S.1 := ⟨_, rfl⟩
  replace h := bdi h _ eq1027
  refine m_newa (N' := 528) X w g1028 (atype := .int) rfl 11 1 rfl na_int rfl nv_int ac_int (by decide) (by decide) (Nat.le_of_ble_eq_true rfl) (Nat.le_of_ble_eq_true rfl) (Nat.le_of_ble_eq_true rfl) dX9_init_988 (fun S V1029 H locs eS eV1029 w => ?_)
  rw [← eq1027] at eV1029 ⊢
  replace h := bdi h _ eS
  replace h := bdi h _ eV1029
  refine W.widen (k := 13) (n := 19508) (Nat.le_of_ble_eq_true rfl) (Nat.le_of_ble_eq_true rfl) ?_
  obtain ⟨g1030, h⟩ := cgi h
  have g1030 := ooB_of g1030
  refine m_putR X w o g1030.1 g1030.2 ci9 29 (by decide) rfl rfl rfl rfl hnm rfl rfl fl_X9_66 dX9_init_990 (fun S H locs eS w => ?_)
  replace h := bdi h _ eS
  refine lv_aload_n hx hb dX9_init_993 rfl (lv_at hl 0 rfl) ?_
  refine lv_sipush (v := 528) hx hb dX9_init_994 (by decide) ?_
  obtain ⟨g1032, h⟩ := cgi h
  have g1032 := beq_iff_eq.mp g1032
  obtain ⟨q1031, eq1031⟩ : ∃ y : Nat, y = S.1 := ⟨_, rfl⟩
  replace h := bdi h _ eq1031
  refine m_newa (N' := 528) X w g1032 (atype := .int) rfl 11 1 rfl na_int rfl nv_int ac_int (by decide) (by decide) (Nat.le_of_ble_eq_true rfl) (Nat.le_of_ble_eq_true rfl) (Nat.le_of_ble_eq_true rfl) dX9_init_997 (fun S V1033 H locs eS eV1033 w => ?_)
  rw [← eq1031] at eV1033 ⊢
  replace h := bdi h _ eS
  replace h := bdi h _ eV1033
  refine W.widen (k := 14) (n := 20036) (Nat.le_of_ble_eq_true rfl) (Nat.le_of_ble_eq_true rfl) ?_
  obtain ⟨g1034, h⟩ := cgi h
  have g1034 := ooB_of g1034
  refine m_putR X w o g1034.1 g1034.2 ci9 30 (by decide) rfl rfl rfl rfl hnm rfl rfl fl_X9_69 dX9_init_999 (fun S H locs eS w => ?_)
  replace h := bdi h _ eS
  refine lv_aload_n hx hb dX9_init_1002 rfl (lv_at hl 0 rfl) ?_
  refine lv_bipush (v := 10) hx hb dX9_init_1003 (by decide) ?_
  obtain ⟨g1036, h⟩ := cgi h
  have g1036 := beq_iff_eq.mp g1036
  obtain ⟨q1035, eq1035⟩ : ∃ y : Nat, y = S.1 := ⟨_, rfl⟩
  replace h := bdi h _ eq1035
  refine m_newa (N' := 10) X w g1036 (atype := .int) rfl 11 1 rfl na_int rfl nv_int ac_int (by decide) (by decide) (Nat.le_of_ble_eq_true rfl) (Nat.le_of_ble_eq_true rfl) (Nat.le_of_ble_eq_true rfl) dX9_init_1005 (fun S V1037 H locs eS eV1037 w => ?_)
  rw [← eq1035] at eV1037 ⊢
  replace h := bdi h _ eS
  replace h := bdi h _ eV1037
  refine W.widen (k := 15) (n := 20046) (Nat.le_of_ble_eq_true rfl) (Nat.le_of_ble_eq_true rfl) ?_
  obtain ⟨g1038, h⟩ := cgi h
  have g1038 := ooB_of g1038
  refine m_putR X w o g1038.1 g1038.2 ci9 32 (by decide) rfl rfl rfl rfl hnm rfl rfl fl_X9_72 dX9_init_1007 (fun S H locs eS w => ?_)
  replace h := bdi h _ eS
  refine lv_aload_n hx hb dX9_init_1010 rfl (lv_at hl 0 rfl) ?_
  refine lv_sipush (v := 1024) hx hb dX9_init_1011 (by decide) ?_
  obtain ⟨g1040, h⟩ := cgi h
  have g1040 := beq_iff_eq.mp g1040
  obtain ⟨q1039, eq1039⟩ : ∃ y : Nat, y = S.1 := ⟨_, rfl⟩
  replace h := bdi h _ eq1039
  refine m_newa (N' := 1024) X w g1040 (atype := .int) rfl 11 1 rfl na_int rfl nv_int ac_int (by decide) (by decide) (Nat.le_of_ble_eq_true rfl) (Nat.le_of_ble_eq_true rfl) (Nat.le_of_ble_eq_true rfl) dX9_init_1014 (fun S V1041 H locs eS eV1041 w => ?_)
  rw [← eq1039] at eV1041 ⊢
  replace h := bdi h _ eS
  replace h := bdi h _ eV1041
  refine W.widen (k := 16) (n := 21070) (Nat.le_of_ble_eq_true rfl) (Nat.le_of_ble_eq_true rfl) ?_
  obtain ⟨g1042, h⟩ := cgi h
  have g1042 := ooB_of g1042
  refine m_putR X w o g1042.1 g1042.2 ci9 33 (by decide) rfl rfl rfl rfl hnm rfl rfl fl_X9_75 dX9_init_1016 (fun S H locs eS w => ?_)
  replace h := bdi h _ eS
  refine lv_aload_n hx hb dX9_init_1019 rfl (lv_at hl 0 rfl) ?_
  refine lv_sipush (v := 1024) hx hb dX9_init_1020 (by decide) ?_
  obtain ⟨g1044, h⟩ := cgi h
  have g1044 := beq_iff_eq.mp g1044
  obtain ⟨q1043, eq1043⟩ : ∃ y : Nat, y = S.1 := ⟨_, rfl⟩
  replace h := bdi h _ eq1043
  refine m_newa (N' := 1024) X w g1044 (atype := .int) rfl 11 1 rfl na_int rfl nv_int ac_int (by decide) (by decide) (Nat.le_of_ble_eq_true rfl) (Nat.le_of_ble_eq_true rfl) (Nat.le_of_ble_eq_true rfl) dX9_init_1023 (fun S V1045 H locs eS eV1045 w => ?_)
  rw [← eq1043] at eV1045 ⊢
  replace h := bdi h _ eS
  replace h := bdi h _ eV1045
  refine W.widen (k := 17) (n := 22094) (Nat.le_of_ble_eq_true rfl) (Nat.le_of_ble_eq_true rfl) ?_
  obtain ⟨g1046, h⟩ := cgi h
  have g1046 := ooB_of g1046
  refine m_putR X w o g1046.1 g1046.2 ci9 34 (by decide) rfl rfl rfl rfl hnm rfl rfl fl_X9_78 dX9_init_1025 (fun S H locs eS w => ?_)
  replace h := bdi h _ eS
  refine lv_aload_n hx hb dX9_init_1028 rfl (lv_at hl 0 rfl) ?_
  refine lv_bipush (v := 26) hx hb dX9_init_1029 (by decide) ?_
  obtain ⟨g1048, h⟩ := cgi h
  have g1048 := beq_iff_eq.mp g1048
  obtain ⟨q1047, eq1047⟩ : ∃ y : Nat, y = S.1 := ⟨_, rfl⟩
  replace h := bdi h _ eq1047
  refine m_newa (N' := 26) X w g1048 (atype := .int) rfl 11 1 rfl na_int rfl nv_int ac_int (by decide) (by decide) (Nat.le_of_ble_eq_true rfl) (Nat.le_of_ble_eq_true rfl) (Nat.le_of_ble_eq_true rfl) dX9_init_1031 (fun S V1049 H locs eS eV1049 w => ?_)
  rw [← eq1047] at eV1049 ⊢
  replace h := bdi h _ eS
  replace h := bdi h _ eV1049
  refine W.widen (k := 18) (n := 22120) (Nat.le_of_ble_eq_true rfl) (Nat.le_of_ble_eq_true rfl) ?_
  obtain ⟨g1050, h⟩ := cgi h
  have g1050 := ooB_of g1050
  refine m_putR X w o g1050.1 g1050.2 ci9 35 (by decide) rfl rfl rfl rfl hnm rfl rfl fl_X9_81 dX9_init_1033 (fun S H locs eS w => ?_)
  replace h := bdi h _ eS
  refine lv_aload_n hx hb dX9_init_1036 rfl (lv_at hl 0 rfl) ?_
  refine lv_sipush (v := 150) hx hb dX9_init_1037 (by decide) ?_
  obtain ⟨g1052, h⟩ := cgi h
  have g1052 := beq_iff_eq.mp g1052
  obtain ⟨q1051, eq1051⟩ : ∃ y : Nat, y = S.1 := ⟨_, rfl⟩
  replace h := bdi h _ eq1051
  refine m_newa (N' := 150) X w g1052 (atype := .int) rfl 11 1 rfl na_int rfl nv_int ac_int (by decide) (by decide) (Nat.le_of_ble_eq_true rfl) (Nat.le_of_ble_eq_true rfl) (Nat.le_of_ble_eq_true rfl) dX9_init_1040 (fun S V1053 H locs eS eV1053 w => ?_)
  rw [← eq1051] at eV1053 ⊢
  replace h := bdi h _ eS
  replace h := bdi h _ eV1053
  refine W.widen (k := 19) (n := 22270) (Nat.le_of_ble_eq_true rfl) (Nat.le_of_ble_eq_true rfl) ?_
  obtain ⟨g1054, h⟩ := cgi h
  have g1054 := ooB_of g1054
  refine m_putR X w o g1054.1 g1054.2 ci9 36 (by decide) rfl rfl rfl rfl hnm rfl rfl fl_X9_84 dX9_init_1042 (fun S H locs eS w => ?_)
  replace h := bdi h _ eS
  refine lv_aload_n hx hb dX9_init_1045 rfl (lv_at hl 0 rfl) ?_
  refine lv_bipush (v := 26) hx hb dX9_init_1046 (by decide) ?_
  obtain ⟨g1056, h⟩ := cgi h
  have g1056 := beq_iff_eq.mp g1056
  obtain ⟨q1055, eq1055⟩ : ∃ y : Nat, y = S.1 := ⟨_, rfl⟩
  replace h := bdi h _ eq1055
  refine m_newa (N' := 26) X w g1056 (atype := .int) rfl 11 1 rfl na_int rfl nv_int ac_int (by decide) (by decide) (Nat.le_of_ble_eq_true rfl) (Nat.le_of_ble_eq_true rfl) (Nat.le_of_ble_eq_true rfl) dX9_init_1048 (fun S V1057 H locs eS eV1057 w => ?_)
  rw [← eq1055] at eV1057 ⊢
  replace h := bdi h _ eS
  replace h := bdi h _ eV1057
  refine W.widen (k := 20) (n := 22296) (Nat.le_of_ble_eq_true rfl) (Nat.le_of_ble_eq_true rfl) ?_
  obtain ⟨g1058, h⟩ := cgi h
  have g1058 := ooB_of g1058
  refine m_putR X w o g1058.1 g1058.2 ci9 37 (by decide) rfl rfl rfl rfl hnm rfl rfl fl_X9_87 dX9_init_1050 (fun S H locs eS w => ?_)
  replace h := bdi h _ eS
  refine lv_aload_n hx hb dX9_init_1053 rfl (lv_at hl 0 rfl) ?_
  refine lv_bipush (v := 32) hx hb dX9_init_1054 (by decide) ?_
  obtain ⟨g1060, h⟩ := cgi h
  have g1060 := beq_iff_eq.mp g1060
  obtain ⟨q1059, eq1059⟩ : ∃ y : Nat, y = S.1 := ⟨_, rfl⟩
  replace h := bdi h _ eq1059
  refine m_newa (N' := 32) X w g1060 (atype := .int) rfl 11 1 rfl na_int rfl nv_int ac_int (by decide) (by decide) (Nat.le_of_ble_eq_true rfl) (Nat.le_of_ble_eq_true rfl) (Nat.le_of_ble_eq_true rfl) dX9_init_1056 (fun S V1061 H locs eS eV1061 w => ?_)
  rw [← eq1059] at eV1061 ⊢
  replace h := bdi h _ eS
  replace h := bdi h _ eV1061
  refine W.widen (k := 21) (n := 22328) (Nat.le_of_ble_eq_true rfl) (Nat.le_of_ble_eq_true rfl) ?_
  obtain ⟨g1062, h⟩ := cgi h
  have g1062 := ooB_of g1062
  refine m_putR X w o g1062.1 g1062.2 ci9 38 (by decide) rfl rfl rfl rfl hnm rfl rfl fl_X9_90 dX9_init_1058 (fun S H locs eS w => ?_)
  replace h := bdi h _ eS
  refine lv_aload_n hx hb dX9_init_1061 rfl (lv_at hl 0 rfl) ?_
  refine lv_bipush (v := 21) hx hb dX9_init_1062 (by decide) ?_
  obtain ⟨g1064, h⟩ := cgi h
  have g1064 := beq_iff_eq.mp g1064
  obtain ⟨q1063, eq1063⟩ : ∃ y : Nat, y = S.1 := ⟨_, rfl⟩
  replace h := bdi h _ eq1063
  refine m_newa (N' := 21) X w g1064 (atype := .long) rfl 12 2 rfl na_long rfl nv_long ac_long (by decide) (by decide) (Nat.le_of_ble_eq_true rfl) (Nat.le_of_ble_eq_true rfl) (Nat.le_of_ble_eq_true rfl) dX9_init_1064 (fun S V1065 H locs eS eV1065 w => ?_)
  rw [← eq1063] at eV1065 ⊢
  replace h := bdi h _ eS
  replace h := bdi h _ eV1065
  refine W.widen (k := 22) (n := 22349) (Nat.le_of_ble_eq_true rfl) (Nat.le_of_ble_eq_true rfl) ?_
  obtain ⟨g1066, h⟩ := cgi h
  have g1066 := ooB_of g1066
  refine m_putR X w o g1066.1 g1066.2 ci9 39 (by decide) rfl rfl rfl rfl hnm rfl rfl fl_X9_93 dX9_init_1066 (fun S H locs eS w => ?_)
  replace h := bdi h _ eS
  refine lv_aload_n hx hb dX9_init_1069 rfl (lv_at hl 0 rfl) ?_
  refine lv_iconst (v := (-1)) hx hb dX9_init_1070 (by decide) ?_
  obtain ⟨g1067, h⟩ := cgi h
  have g1067 := ooB_of g1067
  refine m_put X w o g1067.1 g1067.2 ci9 40 (by decide) rfl rfl rfl rfl rfl fl_X9_97 dX9_init_1071 (fun V1068 H locs eV1068 w => ?_)
  replace h := bdi h _ eV1068
  refine lv_aload_n hx hb dX9_init_1074 rfl (lv_at hl 0 rfl) ?_
  refine lv_iconst (v := 3) hx hb dX9_init_1075 (by decide) ?_
  obtain ⟨g1070, h⟩ := cgi h
  have g1070 := beq_iff_eq.mp g1070
  obtain ⟨q1069, eq1069⟩ : ∃ y : Nat, y = S.1 := ⟨_, rfl⟩
  replace h := bdi h _ eq1069
  refine m_newa (N' := 3) X w g1070 (atype := .long) rfl 12 2 rfl na_long rfl nv_long ac_long (by decide) (by decide) (Nat.le_of_ble_eq_true rfl) (Nat.le_of_ble_eq_true rfl) (Nat.le_of_ble_eq_true rfl) dX9_init_1076 (fun S V1071 H locs eS eV1071 w => ?_)
  rw [← eq1069] at eV1071 ⊢
  replace h := bdi h _ eS
  replace h := bdi h _ eV1071
  refine W.widen (k := 23) (n := 22352) (Nat.le_of_ble_eq_true rfl) (Nat.le_of_ble_eq_true rfl) ?_
  obtain ⟨g1072, h⟩ := cgi h
  have g1072 := ooB_of g1072
  refine m_putR X w o g1072.1 g1072.2 ci9 46 (by decide) rfl rfl rfl rfl hnm rfl rfl fl_X9_100 dX9_init_1078 (fun S H locs eS w => ?_)
  replace h := bdi h _ eS
  refine lv_aload_n hx hb dX9_init_1081 rfl (lv_at hl 0 rfl) ?_
  refine lv_bipush (v := 32) hx hb dX9_init_1082 (by decide) ?_
  obtain ⟨g1074, h⟩ := cgi h
  have g1074 := beq_iff_eq.mp g1074
  obtain ⟨q1073, eq1073⟩ : ∃ y : Nat, y = S.1 := ⟨_, rfl⟩
  replace h := bdi h _ eq1073
  refine m_newa (N' := 32) X w g1074 (atype := .int) rfl 11 1 rfl na_int rfl nv_int ac_int (by decide) (by decide) (Nat.le_of_ble_eq_true rfl) (Nat.le_of_ble_eq_true rfl) (Nat.le_of_ble_eq_true rfl) dX9_init_1084 (fun S V1075 H locs eS eV1075 w => ?_)
  rw [← eq1073] at eV1075 ⊢
  replace h := bdi h _ eS
  replace h := bdi h _ eV1075
  refine W.widen (k := 24) (n := 22384) (Nat.le_of_ble_eq_true rfl) (Nat.le_of_ble_eq_true rfl) ?_
  obtain ⟨g1076, h⟩ := cgi h
  have g1076 := ooB_of g1076
  refine m_putR X w o g1076.1 g1076.2 ci9 47 (by decide) rfl rfl rfl rfl hnm rfl rfl fl_X9_103 dX9_init_1086 (fun S H locs eS w => ?_)
  replace h := bdi h _ eS
  refine lv_aload_n hx hb dX9_init_1089 rfl (lv_at hl 0 rfl) ?_
  refine lv_iconst (v := (-1)) hx hb dX9_init_1090 (by decide) ?_
  obtain ⟨g1077, h⟩ := cgi h
  have g1077 := ooB_of g1077
  refine m_put X w o g1077.1 g1077.2 ci9 48 (by decide) rfl rfl rfl rfl rfl fl_X9_106 dX9_init_1091 (fun V1078 H locs eV1078 w => ?_)
  replace h := bdi h _ eV1078
  refine lv_aload_n hx hb dX9_init_1094 rfl (lv_at hl 0 rfl) ?_
  obtain ⟨g1079, h⟩ := cgi h
  have g1079 := ooB_of g1079
  obtain ⟨g1080, h⟩ := cgi h
  have g1080 := beq_iff_eq.mp g1080
  refine m_get X w o g1079.1 g1079.2 ci9 2 (by decide) (fvR g1079.2 rfl g1080) rfl fl_X9_28 dX9_init_1095 ?_
  refine lv_bipush (v := 101) hx hb dX9_init_1098 (by decide) ?_
  refine lv_iconst (v := 1) hx hb dX9_init_1100 (by decide) ?_
  obtain ⟨g1081, h⟩ := cgi h
  have g1081 := aaB_of g1081
  obtain ⟨g1082, h⟩ := cki h
  refine m_iast X w q549 g1081.1 g1081.2.1 g1081.2.2 g1082 dX9_init_1101 (fun V1083 H locs eV1083 w => ?_)
  replace h := bdi h _ eV1083
  refine lv_aload_n hx hb dX9_init_1102 rfl (lv_at hl 0 rfl) ?_
  obtain ⟨g1084, h⟩ := cgi h
  have g1084 := ooB_of g1084
  obtain ⟨g1085, h⟩ := cgi h
  have g1085 := beq_iff_eq.mp g1085
  refine m_get X w o g1084.1 g1084.2 ci9 2 (by decide) (fvR g1084.2 rfl g1085) rfl fl_X9_28 dX9_init_1103 ?_
  refine lv_bipush (v := 107) hx hb dX9_init_1106 (by decide) ?_
  refine lv_iconst (v := (-1)) hx hb dX9_init_1108 (by decide) ?_
  obtain ⟨g1086, h⟩ := cgi h
  have g1086 := aaB_of g1086
  obtain ⟨g1087, h⟩ := cki h
  refine m_iast X w q549 g1086.1 g1086.2.1 g1086.2.2 g1087 dX9_init_1109 (fun V1088 H locs eV1088 w => ?_)
  replace h := bdi h _ eV1088
  obtain ⟨rfl, rfl⟩ := retAv h
  refine W.widen (k := 24) (n := 22384) (Nat.le_of_ble_eq_true rfl) (Nat.le_of_ble_eq_true rfl) ?_
  exact m_rv X w hr hlocks dX9_init_1110
