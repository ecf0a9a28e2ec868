/-! layMoves() of the reference: segments, by program (wip/p44/emref2.py) -/
def zST_mT6 : qG × List qE × qL × List qV := (([zSr0, zSr0, zSr1, zSr2, zSr0, zSr0, zSr3, zSr4, zSr5, zSr2, zSr6, zSr2, zSr2, zSr2, zSr2, zSr2, zSr2, zSr2, zSr2, zSr7, zSr8, zSr8, zSr9, zSr10, zSr2, zSr3, zSr3, zSr3, zSr3, zSr2, zSr2, zSr11, zSr11, zSr2, zSr2, zSr12, zSr12, zSr12, zSr12, zSr12, zSr12, zSr12, zSr12, zSr12, zSr12], [((.negSucc 0), 20, (.negSucc 0), 21, (.negSucc 39))]), [zSc38, zSc1, zSc2, zSc39, zSc40, zSc41, zSc42, zSc43, zSc8, zSc9, zSc44, zSc9, zSc9, zSc11, zSc12, zSc13, zSc13, zSc14, zSc15, zSc16, zSc17, zSc18, zSc19, zSc19, zSc20, zSc21, zSc45, zSc23, zSc24, zSc25, zSc25, zSc25, zSc25, zSc26, zSc27, zSc28], [(0, (qr 0)), (1, (.inl (.ofNat 6)))], [])
def zSe_mm6_0 : qEd := ((zST_mT6.1, zST_mT6.2.1, .inr (33, zST_mT6.2.2.1, zST_mT6.2.2.2)), [], [])
def zSe_mm6 : List qEd := [zSe_mm6_0]
set_option maxRecDepth 100000 in
theorem zSg_mm6 : q_lgk [] 100000 45 250 2 [33] 33 zST_mT5.1 zST_mT5.2.1 zST_mT5.2.2.1 zST_mT5.2.2.2 zSe_mm6 = true := by decide +kernel
def zSr69 : Int × Int := ((.ofNat 6), (.ofNat 64))
def zSr70 : Int × Int := ((.ofNat 6), (.ofNat 63))
def zST_ms_a : qG × List qE × qL × List qV := (([zSr0, zSr0, zSr1, zSr2, zSr0, zSr0, zSr3, zSr4, zSr5, zSr2, zSr6, zSr2, zSr2, zSr2, zSr2, zSr2, zSr2, zSr2, zSr2, zSr7, zSr8, zSr8, zSr9, zSr10, zSr2, zSr3, zSr3, zSr3, zSr3, zSr2, zSr2, zSr11, zSr11, zSr2, zSr2, zSr12, zSr12, zSr12, zSr12, zSr12, zSr12, zSr12, zSr12, zSr12, zSr12, zSr69], [((.negSucc 0), 20, (.negSucc 0), 21, (.negSucc 39))]), [zSc38, zSc1, zSc2, zSc39, zSc40, zSc41, zSc42, zSc43, zSc8, zSc9, zSc44, zSc9, zSc9, zSc11, zSc12, zSc13, zSc13, zSc14, zSc15, zSc16, zSc17, zSc18, zSc19, zSc19, zSc20, zSc21, zSc45, zSc23, zSc24, zSc25, zSc25, zSc25, zSc25, zSc26, zSc27, zSc28], [(0, (qr 0)), (1, (qa 45))], [])
def zST_mB : qG × List qE × qL × List qV := (([zSr0, zSr0, zSr1, zSr2, zSr0, zSr0, zSr3, zSr4, zSr5, zSr2, zSr6, zSr2, zSr2, zSr2, zSr2, zSr2, zSr2, zSr2, zSr2, zSr7, zSr8, zSr8, zSr9, zSr10, zSr2, zSr3, zSr3, zSr3, zSr3, zSr2, zSr2, zSr11, zSr11, zSr2, zSr2, zSr12, zSr12, zSr12, zSr12, zSr12, zSr12, zSr12, zSr12, zSr12, zSr12, zSr70, zSr9], [((.negSucc 0), 20, (.negSucc 0), 21, (.negSucc 39))]), [zSc38, zSc1, zSc2, zSc39, zSc40, zSc41, zSc42, zSc43, zSc8, zSc9, zSc44, zSc9, zSc9, zSc11, zSc12, zSc13, zSc13, zSc14, zSc15, zSc16, zSc17, zSc18, zSc19, zSc19, zSc20, zSc21, zSc45, zSc23, zSc24, zSc25, zSc25, zSc25, zSc25, zSc26, zSc27, zSc28], [(0, (qr 0)), (1, (qa 45)), (2, (qa 46))], [])
def zST_mpost : qG × List qE × qL × List qV := (([zSr0, zSr0, zSr1, zSr2, zSr0, zSr0, zSr3, zSr4, zSr5, zSr2, zSr6, zSr2, zSr2, zSr2, zSr2, zSr2, zSr2, zSr2, zSr2, zSr7, zSr8, zSr8, zSr9, zSr10, zSr2, zSr3, zSr3, zSr3, zSr3, zSr2, zSr2, zSr11, zSr11, zSr2, zSr2, zSr12, zSr12, zSr12, zSr12, zSr12, zSr12, zSr12, zSr12, zSr12, zSr12], [((.negSucc 0), 20, (.negSucc 0), 21, (.negSucc 39))]), [zSc38, zSc1, zSc2, zSc39, zSc40, zSc41, zSc42, zSc43, zSc8, zSc9, zSc44, zSc9, zSc9, zSc11, zSc12, zSc13, zSc13, zSc14, zSc15, zSc16, zSc17, zSc18, zSc19, zSc19, zSc20, zSc21, zSc45, zSc23, zSc24, zSc25, zSc25, zSc25, zSc25, zSc26, zSc27, zSc28], [], [])
def zSe_ma_0 : qEd := ((zST_mB.1, zST_mB.2.1, .inr (41, zST_mB.2.2.1, zST_mB.2.2.2)), [(45, (qa 45)), (46, (.inl (.ofNat 0)))], [])
def zSe_ma_1 : qEd := ((zST_mpost.1, zST_mpost.2.1, .inl none), [], [])
def zSe_ma : List qEd := [zSe_ma_0, zSe_ma_1]
set_option maxRecDepth 100000 in
theorem zSg_ma : q_lgk [] 100000 45 250 2 [33, 41, 49] 33 zST_ms_a.1 zST_ms_a.2.1 zST_ms_a.2.2.1 zST_ms_a.2.2.2 zSe_ma = true := by decide +kernel
def zST_mC : qG × List qE × qL × List qV := (([zSr0, zSr0, zSr1, zSr2, zSr0, zSr0, zSr3, zSr4, zSr5, zSr2, zSr6, zSr2, zSr2, zSr2, zSr2, zSr2, zSr2, zSr2, zSr2, zSr7, zSr8, zSr8, zSr9, zSr10, zSr2, zSr3, zSr3, zSr3, zSr3, zSr2, zSr2, zSr11, zSr11, zSr2, zSr2, zSr12, zSr12, zSr12, zSr12, zSr12, zSr12, zSr12, zSr12, zSr12, zSr12, zSr70, zSr12, zSr1], [((.negSucc 0), 20, (.negSucc 0), 21, (.negSucc 39))]), [zSc38, zSc1, zSc2, zSc39, zSc40, zSc41, zSc42, zSc43, zSc8, zSc9, zSc44, zSc9, zSc9, zSc11, zSc12, zSc13, zSc13, zSc14, zSc15, zSc16, zSc17, zSc18, zSc19, zSc19, zSc20, zSc21, zSc45, zSc23, zSc24, zSc25, zSc25, zSc25, zSc25, zSc26, zSc27, zSc28], [(0, (qr 0)), (1, (qa 45)), (2, (qa 46)), (3, (qa 47))], [])
def zSe_mb_0 : qEd := ((zST_mC.1, zST_mC.2.1, .inr (49, zST_mC.2.2.1, zST_mC.2.2.2)), [(45, (qa 45)), (46, (qa 46)), (47, (.inl (.ofNat 0)))], [])
def zSe_mb_1 : qEd := ((zST_ms_a.1, zST_ms_a.2.1, .inr (33, zST_ms_a.2.2.1, zST_ms_a.2.2.2)), [(45, (ql 45 (.ofNat 1) (.ofNat 1)))], [])
def zSe_mb : List qEd := [zSe_mb_0, zSe_mb_1]
set_option maxRecDepth 100000 in
theorem zSg_mb : q_lgk [] 100000 45 250 2 [33, 41, 49] 41 zST_mB.1 zST_mB.2.1 zST_mB.2.2.1 zST_mB.2.2.2 zSe_mb = true := by decide +kernel
def zSe_mc_0 : qEd := ((zST_mC.1, zST_mC.2.1, .inr (49, zST_mC.2.2.1, zST_mC.2.2.2)), [(45, (qa 45)), (46, (qa 46)), (47, (ql 47 (.ofNat 1) (.ofNat 1)))], [])
def zSe_mc_1 : qEd := ((zST_mB.1, zST_mB.2.1, .inr (41, zST_mB.2.2.1, zST_mB.2.2.2)), [(45, (qa 45)), (46, (ql 46 (.ofNat 1) (.ofNat 1)))], [])
def zSe_mc : List qEd := [zSe_mc_0, zSe_mc_1]
set_option maxRecDepth 100000 in
theorem zSg_mc : q_lgk [] 100000 45 250 2 [33, 41, 49] 49 zST_mC.1 zST_mC.2.1 zST_mC.2.2.1 zST_mC.2.2.2 zSe_mc = true := by decide +kernel
