def F_X6_in (pp1 : Int64) (pp2 : Int64) (pp3 : Int64) (σ : xS) : Option (Int32 × xS) :=
  if (lg_cmp pp1 pp2) < 0 then (some ((0 : Int32), σ))
 else (if 0 < (lg_cmp pp1 pp3) then (some ((0 : Int32), σ))
 else (some ((1 : Int32), σ)))
def L_X6_copyState_3 (nn1 : Nat) (aa1 : Nat) (pp2 : Int32) (nn3 : Nat) (aa3 : Nat) (pp4 : Int32) (KK2 : xS → Option xS) : Nat → Int32 → xS → Option xS
  | 0, _, _ => none
  | nn_6 + 1, zz4, σ5 => if 187 ≤ zz4 then (KK2 σ5)
 else (if xin (pp2 + zz4) nn1 = true then (xlet (σ5 aa1 (pp2 + zz4).toNatClampNeg) (fun (zz8 : Int32) => if xin (pp4 + zz4) nn3 = true then (xlet (xu σ5 aa3 (pp4 + zz4).toNatClampNeg zz8) (fun (σ9 : xS) => xlet (zz4 + 1) (fun (zz10 : Int32) => L_X6_copyState_3 nn1 aa1 pp2 nn3 aa3 pp4 KK2 nn_6 zz10 σ9))) else none)) else none)
def F_X6_copyState (nn1 aa1 : Nat) (pp2 : Int32) (nn3 aa3 : Nat) (pp4 : Int32) (σ : xS) : Option xS :=
  L_X6_copyState_3 nn1 aa1 pp2 nn3 aa3 pp4 (fun (σ1 : xS) => some σ1) 1000 0 σ
def F_X6_firstSettings (nn1 aa1 : Nat) (σ : xS) : Option xS :=
  if xin (3 : Int32) nn1 = true then (xlet (xu σ aa1 (3 : Int32).toNatClampNeg ((3 : Int32))) (fun (σ1 : xS) => if xin (4 : Int32) nn1 = true then (xlet (xu σ1 aa1 (4 : Int32).toNatClampNeg ((6 : Int32))) (fun (σ2 : xS) => if xin (5 : Int32) nn1 = true then (xlet (xu σ2 aa1 (5 : Int32).toNatClampNeg ((20 : Int32))) (fun (σ3 : xS) => if xin (6 : Int32) nn1 = true then (xlet (xu σ3 aa1 (6 : Int32).toNatClampNeg ((3 : Int32))) (fun (σ4 : xS) => some σ4)) else none)) else none)) else none)) else none
def F_X6_lay (nn1 aa1 : Nat) (pp2 : Int32) (pp3 : Int32) (pp4 : Int32) (σ : xS) : Option xS :=
  if xin ((31 + (39 * pp2)) + pp3) nn1 = true then (xlet (xu σ aa1 ((31 + (39 * pp2)) + pp3).toNatClampNeg pp4) (fun (σ1 : xS) => some σ1)) else none
def L_X6_clear_42 (nn1 : Nat) (aa1 : Nat) (KK4 : xS → Option xS) : Nat → Int32 → xS → Option xS
  | 0, _, _ => none
  | nn_8 + 1, zz6, σ7 => if 4 ≤ zz6 then (KK4 σ7)
 else (xbV (F_X6_lay nn1 aa1 zz6 1 1 σ7) (fun (σ10 : xS) => xbV (F_X6_lay nn1 aa1 zz6 11 ((-1)) σ10) (fun (σ11 : xS) => xlet (zz6 + 1) (fun (zz12 : Int32) => L_X6_clear_42 nn1 aa1 KK4 nn_8 zz12 σ11))))
def L_X6_clear_2 (nn1 : Nat) (aa1 : Nat) (KK14 : xS → Option xS) : Nat → Int32 → xS → Option xS
  | 0, _, _ => none
  | nn_18 + 1, zz16, σ17 => if 187 ≤ zz16 then (KK14 σ17)
 else (if zz16 < 3 then (if xin zz16 nn1 = true then (xlet (xu σ17 aa1 zz16.toNatClampNeg ((0 : Int32))) (fun (σ20 : xS) => xlet (zz16 + 1) (fun (zz21 : Int32) => L_X6_clear_2 nn1 aa1 KK14 nn_18 zz21 σ20))) else none)
 else (if 7 ≤ zz16 then (if xin zz16 nn1 = true then (xlet (xu σ17 aa1 zz16.toNatClampNeg ((0 : Int32))) (fun (σ22 : xS) => xlet (zz16 + 1) (fun (zz23 : Int32) => L_X6_clear_2 nn1 aa1 KK14 nn_18 zz23 σ22))) else none)
 else (if xin zz16 nn1 = true then (xlet (σ17 aa1 zz16.toNatClampNeg) (fun (zz24 : Int32) => if xin zz16 nn1 = true then (xlet (xu σ17 aa1 zz16.toNatClampNeg zz24) (fun (σ25 : xS) => xlet (zz16 + 1) (fun (zz26 : Int32) => L_X6_clear_2 nn1 aa1 KK14 nn_18 zz26 σ25))) else none)) else none)))
def F_X6_clear (nn1 aa1 : Nat) (pp2 : Int32) (σ : xS) : Option xS :=
  L_X6_clear_2 nn1 aa1 (fun (σ1 : xS) => if xin (0 : Int32) nn1 = true then (xlet (xu σ1 aa1 (0 : Int32).toNatClampNeg pp2) (fun (σ2 : xS) => L_X6_clear_42 nn1 aa1 (fun (σ3 : xS) => some σ3) 1000 0 σ2)) else none) 1000 0 σ
def F_X6_of (nn1 aa1 : Nat) (pp2 : Int32) (pp3 : Int32) (σ : xS) : Option (Int32 × xS) :=
  if xin ((31 + (39 * pp2)) + pp3) nn1 = true then (xlet (σ aa1 ((31 + (39 * pp2)) + pp3).toNatClampNeg) (fun (zz1 : Int32) => some (zz1, σ))) else none
def F_X6_isWriter (nn1 aa1 : Nat) (pp2 : Int32) (σ : xS) : Option (Int32 × xS) :=
  if xin (0 : Int32) nn1 = true then (xlet (σ aa1 (0 : Int32).toNatClampNeg) (fun (zz1 : Int32) => xbI (F_X6_in pp2.toInt64 0 ((zz1 - 1).toInt64) σ) (fun (zz3 : Int32) (σ2 : xS) => if vp_nar .boolean zz3 = zz3 then some (zz3, σ2) else none))) else none
def F_X6_isNote (pp1 : Int32) (σ : xS) : Option (Int32 × xS) :=
  xbI (F_X6_in pp1.toInt64 1 500 σ) (fun (zz2 : Int32) (σ1 : xS) => if vp_nar .boolean zz2 = zz2 then some (zz2, σ1) else none)
def L_X6_sum_4 (nn1 : Nat) (aa1 : Nat) (pp2 : Int32) (KK3 : Int32 → xS → Option (Int32 × xS)) : Nat → Int32 → Int32 → xS → Option (Int32 × xS)
  | 0, _, _, _ => none
  | nn_8 + 1, zz5, zz6, σ7 => if xin (0 : Int32) nn1 = true then (xlet (σ7 aa1 (0 : Int32).toNatClampNeg) (fun (zz10 : Int32) => if zz10 ≤ zz6 then (KK3 zz5 σ7)
 else (xbI (F_X6_of nn1 aa1 zz6 pp2 σ7) (fun (zz12 : Int32) (σ11 : xS) => xlet (zz5 + zz12) (fun (zz13 : Int32) => xlet (zz6 + 1) (fun (zz14 : Int32) => L_X6_sum_4 nn1 aa1 pp2 KK3 nn_8 zz13 zz14 σ11)))))) else none
def F_X6_sum (nn1 aa1 : Nat) (pp2 : Int32) (σ : xS) : Option (Int32 × xS) :=
  L_X6_sum_4 nn1 aa1 pp2 (fun (zz1 : Int32) (σ2 : xS) => some (zz1, σ2)) 1000 0 0 σ
def F_X6_letterGoes (nn1 aa1 : Nat) (pp2 : Int32) (pp3 : Int32) (σ : xS) : Option xS :=
  if xin (1 : Int32) nn1 = true then (xlet (σ aa1 (1 : Int32).toNatClampNeg) (fun (zz1 : Int32) => if xin (3 : Int32) nn1 = true then (xlet (σ aa1 (3 : Int32).toNatClampNeg) (fun (zz2 : Int32) => xlet (zz1 + zz2) (fun (zz3 : Int32) => xbI (F_X6_of nn1 aa1 pp2 7 σ) (fun (zz5 : Int32) (σ4 : xS) => xjn (fun (zz6 : Int32) (σ7 : xS) => xbI (F_X6_of nn1 aa1 pp2 6 σ7) (fun (zz9 : Int32) (σ8 : xS) => xbV (F_X6_lay nn1 aa1 pp2 (15 + (2 * zz9)) pp3 σ8) (fun (σ10 : xS) => xbV (F_X6_lay nn1 aa1 pp2 ((15 + (2 * zz9)) + 1) zz6 σ10) (fun (σ11 : xS) => xbV (F_X6_lay nn1 aa1 pp2 6 (zz9 + 1) σ11) (fun (σ12 : xS) => xbV (F_X6_lay nn1 aa1 pp2 7 zz6 σ12) (fun (σ13 : xS) => xbI (F_X6_of nn1 aa1 pp2 3 σ13) (fun (zz15 : Int32) (σ14 : xS) => xbV (F_X6_lay nn1 aa1 pp2 3 (zz15 + 1) σ14) (fun (σ16 : xS) => xbI (F_X6_of nn1 aa1 pp2 0 σ16) (fun (zz18 : Int32) (σ17 : xS) => xbV (F_X6_lay nn1 aa1 pp2 0 (zz18 - pp3) σ17) (fun (σ19 : xS) => some σ19))))))))))
 (fun (KK20 : Int32 → xS → Option xS) => if zz5 ≤ zz3 then (KK20 zz3 σ4)
 else (xbI (F_X6_of nn1 aa1 pp2 7 σ4) (fun (zz23 : Int32) (σ22 : xS) => KK20 zz23 σ22))))))) else none)) else none
def L_X6_sends_10 (nn1 : Nat) (aa1 : Nat) (pp2 : Int32) (pp3 : Int32) (KK6 : xS → Option (Int32 × xS)) : Nat → Int32 → xS → Option (Int32 × xS)
  | 0, _, _ => none
  | nn_10 + 1, zz8, σ9 => if zz8 = 0 then (KK6 σ9)
 else (xbI (F_X6_of nn1 aa1 pp2 0 σ9) (fun (zz13 : Int32) (σ12 : xS) => if zz13 ≤ 0 then (KK6 σ12)
 else (xbI (F_X6_of nn1 aa1 pp2 6 σ12) (fun (zz15 : Int32) (σ14 : xS) => if xin (6 : Int32) nn1 = true then (xlet (σ14 aa1 (6 : Int32).toNatClampNeg) (fun (zz16 : Int32) => if zz16 ≤ zz15 then (KK6 σ14)
 else (xbI (F_X6_of nn1 aa1 pp2 0 σ14) (fun (zz18 : Int32) (σ17 : xS) => if xin (5 : Int32) nn1 = true then (xlet (σ17 aa1 (5 : Int32).toNatClampNeg) (fun (zz19 : Int32) => xjn (fun (zz20 : Int32) (σ21 : xS) => xjn (fun (zz22 : Int32) (σ23 : xS) => if zz22 = 0 then (L_X6_sends_10 nn1 aa1 pp2 pp3 KK6 nn_10 zz22 σ23)
 else (if zz20 = 0 then (xbI (F_X6_of nn1 aa1 pp2 0 σ23) (fun (zz25 : Int32) (σ24 : xS) => xbV (F_X6_letterGoes nn1 aa1 pp2 zz25 σ24) (fun (σ26 : xS) => L_X6_sends_10 nn1 aa1 pp2 pp3 KK6 nn_10 zz22 σ26)))
 else (if xin (5 : Int32) nn1 = true then (xlet (σ23 aa1 (5 : Int32).toNatClampNeg) (fun (zz27 : Int32) => xbV (F_X6_letterGoes nn1 aa1 pp2 zz27 σ23) (fun (σ28 : xS) => L_X6_sends_10 nn1 aa1 pp2 pp3 KK6 nn_10 zz22 σ28))) else none)))
 (fun (KK29 : Int32 → xS → Option (Int32 × xS)) => xjn (fun (σ31 : xS) => KK29 1 σ31)
 (fun (KK32 : xS → Option (Int32 × xS)) => if ¬ zz20 = 0 then (KK32 σ21)
 else (if pp3 = 0 then (KK32 σ21)
 else (xbI (F_X6_of nn1 aa1 pp2 6 σ21) (fun (zz35 : Int32) (σ34 : xS) => if ¬ zz35 = 0 then (KK29 0 σ34)
 else (KK32 σ34)))))))
 (fun (KK36 : Int32 → xS → Option (Int32 × xS)) => if zz18 < zz19 then (KK36 0 σ17)
 else (KK36 1 σ17)))) else none)))) else none))))
def F_X6_sends (nn1 aa1 : Nat) (pp2 : Int32) (pp3 : Int32) (σ : xS) : Option (Int32 × xS) :=
  xbI (F_X6_of nn1 aa1 pp2 3 σ) (fun (zz2 : Int32) (σ1 : xS) => L_X6_sends_10 nn1 aa1 pp2 pp3 (fun (σ3 : xS) => xbI (F_X6_of nn1 aa1 pp2 3 σ3) (fun (zz5 : Int32) (σ4 : xS) => some ((zz5 - zz2), σ4))) 1000 1 σ1)
def F_X6_sendsAsItDoes (nn1 aa1 : Nat) (pp2 : Int32) (σ : xS) : Option (Int32 × xS) :=
  xbI (F_X6_of nn1 aa1 pp2 1 σ) (fun (zz2 : Int32) (σ1 : xS) => if ¬ zz2 = 1 then (xbI (F_X6_sends nn1 aa1 pp2 0 σ1) (fun (zz4 : Int32) (σ3 : xS) => some (zz4, σ3)))
 else (xbI (F_X6_sends nn1 aa1 pp2 1 σ1) (fun (zz6 : Int32) (σ5 : xS) => some (zz6, σ5))))
def F_X6_canWrite (nn1 aa1 : Nat) (pp2 : Int32) (pp3 : Int32) (σ : xS) : Option (Int32 × xS) :=
  xbI (F_X6_of nn1 aa1 pp2 0 σ) (fun (zz2 : Int32) (σ1 : xS) => if 9999 < (zz2 + pp3) then (some ((0 : Int32), σ1))
 else (some ((1 : Int32), σ1)))
def F_X6_writeOn (nn1 aa1 : Nat) (pp2 : Int32) (pp3 : Int32) (σ : xS) : Option (Int32 × xS) :=
  xbI (F_X6_of nn1 aa1 pp2 0 σ) (fun (zz2 : Int32) (σ1 : xS) => xbV (F_X6_lay nn1 aa1 pp2 0 (zz2 + pp3) σ1) (fun (σ3 : xS) => xbI (F_X6_of nn1 aa1 pp2 2 σ3) (fun (zz5 : Int32) (σ4 : xS) => xbV (F_X6_lay nn1 aa1 pp2 2 (zz5 + pp3) σ4) (fun (σ6 : xS) => xbI (F_X6_sendsAsItDoes nn1 aa1 pp2 σ6) (fun (zz8 : Int32) (σ7 : xS) => some (zz8, σ7))))))
def F_X6_answers (nn1 aa1 : Nat) (pp2 : Int32) (σ : xS) : Option xS :=
  if xin (1 : Int32) nn1 = true then (xlet (σ aa1 (1 : Int32).toNatClampNeg) (fun (zz1 : Int32) => if xin (3 : Int32) nn1 = true then (xlet (σ aa1 (3 : Int32).toNatClampNeg) (fun (zz2 : Int32) => xlet (zz1 + zz2) (fun (zz3 : Int32) => xbI (F_X6_of nn1 aa1 pp2 14 σ) (fun (zz5 : Int32) (σ4 : xS) => xjn (fun (zz6 : Int32) (σ7 : xS) => xbI (F_X6_of nn1 aa1 pp2 13 σ7) (fun (zz9 : Int32) (σ8 : xS) => xbV (F_X6_lay nn1 aa1 pp2 (27 + zz9) zz6 σ8) (fun (σ10 : xS) => xbI (F_X6_of nn1 aa1 pp2 9 σ10) (fun (zz12 : Int32) (σ11 : xS) => xbV (F_X6_lay nn1 aa1 pp2 (33 + zz9) zz12 σ11) (fun (σ13 : xS) => xbV (F_X6_lay nn1 aa1 pp2 13 (zz9 + 1) σ13) (fun (σ14 : xS) => xbV (F_X6_lay nn1 aa1 pp2 14 zz6 σ14) (fun (σ15 : xS) => xbI (F_X6_of nn1 aa1 pp2 12 σ15) (fun (zz17 : Int32) (σ16 : xS) => xbV (F_X6_lay nn1 aa1 pp2 12 (zz17 + 1) σ16) (fun (σ18 : xS) => xbV (F_X6_lay nn1 aa1 pp2 10 0 σ18) (fun (σ19 : xS) => xbV (F_X6_lay nn1 aa1 pp2 11 ((-1)) σ19) (fun (σ20 : xS) => some σ20)))))))))))
 (fun (KK21 : Int32 → xS → Option xS) => if zz5 ≤ zz3 then (KK21 zz3 σ4)
 else (xbI (F_X6_of nn1 aa1 pp2 14 σ4) (fun (zz24 : Int32) (σ23 : xS) => KK21 zz24 σ23))))))) else none)) else none
def F_X6_letterComes (nn1 aa1 : Nat) (pp2 : Int32) (pp3 : Int32) (σ : xS) : Option xS :=
  xbI (F_X6_of nn1 aa1 pp2 8 σ) (fun (zz2 : Int32) (σ1 : xS) => xbV (F_X6_lay nn1 aa1 pp2 8 (zz2 + pp3) σ1) (fun (σ3 : xS) => xbI (F_X6_of nn1 aa1 pp2 9 σ3) (fun (zz5 : Int32) (σ4 : xS) => xbV (F_X6_lay nn1 aa1 pp2 9 (zz5 + 1) σ4) (fun (σ6 : xS) => xbI (F_X6_of nn1 aa1 pp2 10 σ6) (fun (zz8 : Int32) (σ7 : xS) => xbV (F_X6_lay nn1 aa1 pp2 10 (zz8 + 1) σ7) (fun (σ9 : xS) => xbI (F_X6_of nn1 aa1 pp2 10 σ9) (fun (zz11 : Int32) (σ10 : xS) => if zz11 = 2 then (xbV (F_X6_answers nn1 aa1 pp2 σ10) (fun (σ12 : xS) => some σ12))
 else (if xin (4 : Int32) nn1 = true then (xlet (σ10 aa1 (4 : Int32).toNatClampNeg) (fun (zz13 : Int32) => if ¬ zz13 = 0 then (xbI (F_X6_of nn1 aa1 pp2 11 σ10) (fun (zz15 : Int32) (σ14 : xS) => if ¬ zz15 = ((-1)) then (some σ14)
 else (if xin (1 : Int32) nn1 = true then (xlet (σ14 aa1 (1 : Int32).toNatClampNeg) (fun (zz16 : Int32) => if xin (4 : Int32) nn1 = true then (xlet (σ14 aa1 (4 : Int32).toNatClampNeg) (fun (zz17 : Int32) => xbV (F_X6_lay nn1 aa1 pp2 11 (zz16 + zz17) σ14) (fun (σ18 : xS) => some σ18))) else none)) else none)))
 else (xbV (F_X6_answers nn1 aa1 pp2 σ10) (fun (σ19 : xS) => some σ19)))) else none))))))))
def L_X6_firstAnswered_12 (nn1 : Nat) (aa1 : Nat) (pp2 : Int32) (zz3 : Int32) (KK9 : xS → Option xS) : Nat → Int32 → xS → Option xS
  | 0, _, _ => none
  | nn_13 + 1, zz11, σ12 => if (2 * zz3) ≤ zz11 then (KK9 σ12)
 else (xbI (F_X6_of nn1 aa1 pp2 ((15 + zz11) + 2) σ12) (fun (zz16 : Int32) (σ15 : xS) => xbV (F_X6_lay nn1 aa1 pp2 (15 + zz11) zz16 σ15) (fun (σ17 : xS) => xlet (zz11 + 1) (fun (zz18 : Int32) => L_X6_firstAnswered_12 nn1 aa1 pp2 zz3 KK9 nn_13 zz18 σ17))))
def F_X6_firstAnswered (nn1 aa1 : Nat) (pp2 : Int32) (σ : xS) : Option xS :=
  xbI (F_X6_of nn1 aa1 pp2 6 σ) (fun (zz2 : Int32) (σ1 : xS) => xlet (zz2 - 1) (fun (zz3 : Int32) => L_X6_firstAnswered_12 nn1 aa1 pp2 zz3 (fun (σ4 : xS) => xbV (F_X6_lay nn1 aa1 pp2 6 zz3 σ4) (fun (σ5 : xS) => xbI (F_X6_of nn1 aa1 pp2 5 σ5) (fun (zz7 : Int32) (σ6 : xS) => xbV (F_X6_lay nn1 aa1 pp2 5 (zz7 + 1) σ6) (fun (σ8 : xS) => some σ8)))) 1000 0 σ1))
def L_X6_answerComes_83 (nn1 : Nat) (aa1 : Nat) (pp2 : Int32) (zz2 : Int32) (KK9 : xS → Option xS) : Nat → xS → Option xS
  | 0, _ => none
  | nn_12 + 1, σ11 => xbI (F_X6_of nn1 aa1 pp2 5 σ11) (fun (zz15 : Int32) (σ14 : xS) => if zz2 ≤ zz15 then (KK9 σ14)
 else (xbI (F_X6_of nn1 aa1 pp2 6 σ14) (fun (zz17 : Int32) (σ16 : xS) => if zz17 ≤ 0 then (KK9 σ16)
 else (xbV (F_X6_firstAnswered nn1 aa1 pp2 σ16) (fun (σ18 : xS) => L_X6_answerComes_83 nn1 aa1 pp2 zz2 KK9 nn_12 σ18)))))
def L_X6_answerComes_21 (nn1 : Nat) (aa1 : Nat) (pp2 : Int32) (zz5 : Int32) (KK20 : xS → Option xS) : Nat → Int32 → xS → Option xS
  | 0, _, _ => none
  | nn_24 + 1, zz22, σ23 => if zz5 ≤ zz22 then (KK20 σ23)
 else (xbI (F_X6_of nn1 aa1 pp2 ((27 + zz22) + 1) σ23) (fun (zz27 : Int32) (σ26 : xS) => xbV (F_X6_lay nn1 aa1 pp2 (27 + zz22) zz27 σ26) (fun (σ28 : xS) => xbI (F_X6_of nn1 aa1 pp2 (34 + zz22) σ28) (fun (zz30 : Int32) (σ29 : xS) => xbV (F_X6_lay nn1 aa1 pp2 (33 + zz22) zz30 σ29) (fun (σ31 : xS) => xlet (zz22 + 1) (fun (zz32 : Int32) => L_X6_answerComes_21 nn1 aa1 pp2 zz5 KK20 nn_24 zz32 σ31))))))
def F_X6_answerComes (nn1 aa1 : Nat) (pp2 : Int32) (σ : xS) : Option xS :=
  xbI (F_X6_of nn1 aa1 pp2 33 σ) (fun (zz2 : Int32) (σ1 : xS) => xbI (F_X6_of nn1 aa1 pp2 13 σ1) (fun (zz4 : Int32) (σ3 : xS) => xlet (zz4 - 1) (fun (zz5 : Int32) => L_X6_answerComes_21 nn1 aa1 pp2 zz5 (fun (σ6 : xS) => xbV (F_X6_lay nn1 aa1 pp2 13 zz5 σ6) (fun (σ7 : xS) => L_X6_answerComes_83 nn1 aa1 pp2 zz2 (fun (σ8 : xS) => some σ8) 1000  σ7)) 1000 0 σ3)))
def L_X6_writerTicks_96 (nn1 : Nat) (aa1 : Nat) (pp2 : Int32) (KK26 : Int32 → xS → Option xS) : Nat → Int32 → xS → Option xS
  | 0, _, _ => none
  | nn_30 + 1, zz28, σ29 => xbI (F_X6_of nn1 aa1 pp2 13 σ29) (fun (zz33 : Int32) (σ32 : xS) => if zz33 ≤ 0 then (KK26 zz28 σ32)
 else (xbI (F_X6_of nn1 aa1 pp2 27 σ32) (fun (zz35 : Int32) (σ34 : xS) => if xin (1 : Int32) nn1 = true then (xlet (σ34 aa1 (1 : Int32).toNatClampNeg) (fun (zz36 : Int32) => if ¬ zz35 = zz36 then (KK26 zz28 σ34)
 else (xbV (F_X6_answerComes nn1 aa1 pp2 σ34) (fun (σ37 : xS) => L_X6_writerTicks_96 nn1 aa1 pp2 KK26 nn_30 1 σ37)))) else none)))
def L_X6_writerTicks_26 (nn1 : Nat) (aa1 : Nat) (pp2 : Int32) (zz7 : Int32) (KK42 : xS → Option xS) : Nat → Int32 → xS → Option xS
  | 0, _, _ => none
  | nn_46 + 1, zz44, σ45 => if zz7 ≤ zz44 then (KK42 σ45)
 else (xbI (F_X6_of nn1 aa1 pp2 ((15 + (2 * zz44)) + 1) σ45) (fun (zz49 : Int32) (σ48 : xS) => if xin (1 : Int32) nn1 = true then (xlet (σ48 aa1 (1 : Int32).toNatClampNeg) (fun (zz50 : Int32) => if ¬ zz49 = zz50 then (xlet (zz44 + 1) (fun (zz51 : Int32) => L_X6_writerTicks_26 nn1 aa1 pp2 zz7 KK42 nn_46 zz51 σ48))
 else (xbI (F_X6_of nn1 aa1 pp2 (15 + (2 * zz44)) σ48) (fun (zz53 : Int32) (σ52 : xS) => xbV (F_X6_letterComes nn1 aa1 pp2 zz53 σ52) (fun (σ54 : xS) => xlet (zz44 + 1) (fun (zz55 : Int32) => L_X6_writerTicks_26 nn1 aa1 pp2 zz7 KK42 nn_46 zz55 σ54)))))) else none))
def F_X6_writerTicks (nn1 aa1 : Nat) (pp2 : Int32) (σ : xS) : Option xS :=
  xbI (F_X6_of nn1 aa1 pp2 9 σ) (fun (zz2 : Int32) (σ1 : xS) => xbI (F_X6_of nn1 aa1 pp2 5 σ1) (fun (zz4 : Int32) (σ3 : xS) => xlet (zz2 - zz4) (fun (zz5 : Int32) => xbI (F_X6_of nn1 aa1 pp2 6 σ3) (fun (zz7 : Int32) (σ6 : xS) => L_X6_writerTicks_26 nn1 aa1 pp2 zz7 (fun (σ8 : xS) => xbI (F_X6_of nn1 aa1 pp2 11 σ8) (fun (zz10 : Int32) (σ9 : xS) => if xin (1 : Int32) nn1 = true then (xlet (σ9 aa1 (1 : Int32).toNatClampNeg) (fun (zz11 : Int32) => xjn (fun (σ12 : xS) => L_X6_writerTicks_96 nn1 aa1 pp2 (fun (zz13 : Int32) (σ14 : xS) => xjn (fun (σ15 : xS) => xbI (F_X6_of nn1 aa1 pp2 4 σ15) (fun (zz17 : Int32) (σ16 : xS) => xbI (F_X6_of nn1 aa1 pp2 0 σ16) (fun (zz19 : Int32) (σ18 : xS) => if zz19 ≤ 0 then (xbV (F_X6_lay nn1 aa1 pp2 4 (zz17 + 0) σ18) (fun (σ20 : xS) => some σ20))
 else (xbV (F_X6_lay nn1 aa1 pp2 4 (zz17 + 1) σ18) (fun (σ21 : xS) => some σ21)))))
 (fun (KK22 : xS → Option xS) => if zz13 = 0 then (KK22 σ14)
 else (xbI (F_X6_sendsAsItDoes nn1 aa1 pp2 σ14) (fun (zz25 : Int32) (σ24 : xS) => KK22 σ24)))) 1000 0 σ12)
 (fun (KK39 : xS → Option xS) => if ¬ zz10 = zz11 then (KK39 σ9)
 else (xbV (F_X6_answers nn1 aa1 pp2 σ9) (fun (σ41 : xS) => KK39 σ41))))) else none)) 1000 zz5 σ6))))
def L_X6_notesAreWritten_8 (nn1 : Nat) (aa1 : Nat) (zz1 : Int32) (KK5 : Int32 → xS → Option xS) : Nat → Int32 → Int32 → xS → Option xS
  | 0, _, _, _ => none
  | nn_10 + 1, zz7, zz8, σ9 => if zz1 ≤ zz8 then (KK5 zz7 σ9)
 else (xlet (7 + (3 * zz8)) (fun (zz12 : Int32) => if xin (zz12 + 1) nn1 = true then (xlet (σ9 aa1 (zz12 + 1).toNatClampNeg) (fun (zz13 : Int32) => if xin zz12 nn1 = true then (xlet (σ9 aa1 zz12.toNatClampNeg) (fun (zz14 : Int32) => if xin (1 : Int32) nn1 = true then (xlet (σ9 aa1 (1 : Int32).toNatClampNeg) (fun (zz15 : Int32) => if zz14 = zz15 then (if xin (zz12 + 2) nn1 = true then (xlet (σ9 aa1 (zz12 + 2).toNatClampNeg) (fun (zz16 : Int32) => xbI (F_X6_canWrite nn1 aa1 zz13 zz16 σ9) (fun (zz18 : Int32) (σ17 : xS) => if zz18 = 0 then (xlet (zz8 + 1) (fun (zz19 : Int32) => L_X6_notesAreWritten_8 nn1 aa1 zz1 KK5 nn_10 zz7 zz19 σ17))
 else (if xin (zz12 + 2) nn1 = true then (xlet (σ17 aa1 (zz12 + 2).toNatClampNeg) (fun (zz20 : Int32) => xbI (F_X6_writeOn nn1 aa1 zz13 zz20 σ17) (fun (zz22 : Int32) (σ21 : xS) => xlet (zz8 + 1) (fun (zz23 : Int32) => L_X6_notesAreWritten_8 nn1 aa1 zz1 KK5 nn_10 zz7 zz23 σ21)))) else none)))) else none)
 else (if xin zz12 nn1 = true then (xlet (σ9 aa1 zz12.toNatClampNeg) (fun (zz24 : Int32) => if xin (7 + (3 * zz7)) nn1 = true then (xlet (xu σ9 aa1 (7 + (3 * zz7)).toNatClampNeg zz24) (fun (σ25 : xS) => if xin ((7 + (3 * zz7)) + 1) nn1 = true then (xlet (xu σ25 aa1 ((7 + (3 * zz7)) + 1).toNatClampNeg zz13) (fun (σ26 : xS) => if xin (zz12 + 2) nn1 = true then (xlet (σ26 aa1 (zz12 + 2).toNatClampNeg) (fun (zz27 : Int32) => if xin ((7 + (3 * zz7)) + 2) nn1 = true then (xlet (xu σ26 aa1 ((7 + (3 * zz7)) + 2).toNatClampNeg zz27) (fun (σ28 : xS) => xlet (zz7 + 1) (fun (zz29 : Int32) => xlet (zz8 + 1) (fun (zz30 : Int32) => L_X6_notesAreWritten_8 nn1 aa1 zz1 KK5 nn_10 zz29 zz30 σ28)))) else none)) else none)) else none)) else none)) else none))) else none)) else none)) else none))
def F_X6_notesAreWritten (nn1 aa1 : Nat) (σ : xS) : Option xS :=
  if xin (2 : Int32) nn1 = true then (xlet (σ aa1 (2 : Int32).toNatClampNeg) (fun (zz1 : Int32) => L_X6_notesAreWritten_8 nn1 aa1 zz1 (fun (zz2 : Int32) (σ3 : xS) => if xin (2 : Int32) nn1 = true then (xlet (xu σ3 aa1 (2 : Int32).toNatClampNeg zz2) (fun (σ4 : xS) => some σ4)) else none) 1000 0 0 σ)) else none
def L_X6_tick_13 (nn1 : Nat) (aa1 : Nat) (KK5 : xS → Option xS) : Nat → Int32 → xS → Option xS
  | 0, _, _ => none
  | nn_9 + 1, zz7, σ8 => if xin (0 : Int32) nn1 = true then (xlet (σ8 aa1 (0 : Int32).toNatClampNeg) (fun (zz11 : Int32) => if zz11 ≤ zz7 then (KK5 σ8)
 else (xbV (F_X6_writerTicks nn1 aa1 zz7 σ8) (fun (σ12 : xS) => xlet (zz7 + 1) (fun (zz13 : Int32) => L_X6_tick_13 nn1 aa1 KK5 nn_9 zz13 σ12))))) else none
def F_X6_tick (nn1 aa1 : Nat) (σ : xS) : Option xS :=
  if xin (1 : Int32) nn1 = true then (xlet (σ aa1 (1 : Int32).toNatClampNeg) (fun (zz1 : Int32) => if xin (1 : Int32) nn1 = true then (xlet (xu σ aa1 (1 : Int32).toNatClampNeg ((zz1 + 1))) (fun (σ2 : xS) => xbV (F_X6_notesAreWritten nn1 aa1 σ2) (fun (σ3 : xS) => L_X6_tick_13 nn1 aa1 (fun (σ4 : xS) => some σ4) 1000 0 σ3))) else none)) else none
def L_X6_ticksOn_9 (nn1 : Nat) (aa1 : Nat) (pp2 : Int32) (KK6 : xS → Option (Int32 × xS)) : Nat → Int32 → xS → Option (Int32 × xS)
  | 0, _, _ => none
  | nn_10 + 1, zz8, σ9 => if pp2 ≤ zz8 then (KK6 σ9)
 else (xbV (F_X6_tick nn1 aa1 σ9) (fun (σ12 : xS) => xlet (zz8 + 1) (fun (zz13 : Int32) => L_X6_ticksOn_9 nn1 aa1 pp2 KK6 nn_10 zz13 σ12)))
def F_X6_ticksOn (nn1 aa1 : Nat) (pp2 : Int32) (σ : xS) : Option (Int32 × xS) :=
  xbI (F_X6_sum nn1 aa1 8 σ) (fun (zz2 : Int32) (σ1 : xS) => L_X6_ticksOn_9 nn1 aa1 pp2 (fun (σ3 : xS) => xbI (F_X6_sum nn1 aa1 8 σ3) (fun (zz5 : Int32) (σ4 : xS) => some ((zz5 - zz2), σ4))) 1000 0 σ1)
def F_X6_planOn (nn1 aa1 : Nat) (pp2 : Int32) (pp3 : Int32) (pp4 : Int32) (σ : xS) : Option (Int32 × xS) :=
  if xin (2 : Int32) nn1 = true then (xlet (σ aa1 (2 : Int32).toNatClampNeg) (fun (zz1 : Int32) => xlet (7 + (3 * zz1)) (fun (zz2 : Int32) => if xin (1 : Int32) nn1 = true then (xlet (σ aa1 (1 : Int32).toNatClampNeg) (fun (zz3 : Int32) => if xin zz2 nn1 = true then (xlet (xu σ aa1 zz2.toNatClampNeg ((zz3 + pp2))) (fun (σ4 : xS) => if xin (zz2 + 1) nn1 = true then (xlet (xu σ4 aa1 (zz2 + 1).toNatClampNeg pp3) (fun (σ5 : xS) => if xin (zz2 + 2) nn1 = true then (xlet (xu σ5 aa1 (zz2 + 2).toNatClampNeg pp4) (fun (σ6 : xS) => if xin (2 : Int32) nn1 = true then (xlet (σ6 aa1 (2 : Int32).toNatClampNeg) (fun (zz7 : Int32) => if xin (2 : Int32) nn1 = true then (xlet (xu σ6 aa1 (2 : Int32).toNatClampNeg ((zz7 + 1))) (fun (σ8 : xS) => if xin (2 : Int32) nn1 = true then (xlet (σ8 aa1 (2 : Int32).toNatClampNeg) (fun (zz9 : Int32) => some (zz9, σ8))) else none)) else none)) else none)) else none)) else none)) else none)) else none))) else none
def F_X6_holdOn (nn1 aa1 : Nat) (pp2 : Int32) (pp3 : Int32) (σ : xS) : Option (Int32 × xS) :=
  if pp3 = 0 then (xbV (F_X6_lay nn1 aa1 pp2 1 0 σ) (fun (σ1 : xS) => xbI (F_X6_sendsAsItDoes nn1 aa1 pp2 σ1) (fun (zz3 : Int32) (σ2 : xS) => some (zz3, σ2))))
 else (xbV (F_X6_lay nn1 aa1 pp2 1 1 σ) (fun (σ4 : xS) => xbI (F_X6_sendsAsItDoes nn1 aa1 pp2 σ4) (fun (zz6 : Int32) (σ5 : xS) => some (zz6, σ5))))
def F_X6_isSetting (pp1 : Int32) (pp2 : Int32) (σ : xS) : Option (Int32 × xS) :=
  xjn (fun (σ1 : xS) => xjn (fun (σ2 : xS) => xjn (fun (σ3 : xS) => if ¬ pp1 = 3 then (some ((0 : Int32), σ3))
 else (xbI (F_X6_in pp2.toInt64 1 6 σ3) (fun (zz5 : Int32) (σ4 : xS) => if zz5 = 0 then (some ((0 : Int32), σ4))
 else (some ((1 : Int32), σ4)))))
 (fun (KK6 : xS → Option (Int32 × xS)) => if ¬ pp1 = 2 then (KK6 σ2)
 else (xbI (F_X6_in pp2.toInt64 4 99 σ2) (fun (zz9 : Int32) (σ8 : xS) => if ¬ zz9 = 0 then (some ((1 : Int32), σ8))
 else (KK6 σ8)))))
 (fun (KK10 : xS → Option (Int32 × xS)) => if ¬ pp1 = 1 then (KK10 σ1)
 else (xbI (F_X6_in pp2.toInt64 0 20 σ1) (fun (zz13 : Int32) (σ12 : xS) => if ¬ zz13 = 0 then (some ((1 : Int32), σ12))
 else (KK10 σ12)))))
 (fun (KK14 : xS → Option (Int32 × xS)) => if ¬ pp1 = 0 then (KK14 σ)
 else (xbI (F_X6_in pp2.toInt64 1 9 σ) (fun (zz17 : Int32) (σ16 : xS) => if ¬ zz17 = 0 then (some ((1 : Int32), σ16))
 else (KK14 σ16))))
def L_X6_isDone_27 (nn1 : Nat) (aa1 : Nat) (pp2 : Int32) (KK7 : Int32 → xS → Option (Int32 × xS)) : Nat → Int32 → Int32 → xS → Option (Int32 × xS)
  | 0, _, _, _ => none
  | nn_12 + 1, zz9, zz10, σ11 => if xin (2 : Int32) nn1 = true then (xlet (σ11 aa1 (2 : Int32).toNatClampNeg) (fun (zz14 : Int32) => if zz14 ≤ zz10 then (KK7 zz9 σ11)
 else (if zz9 = 0 then (xlet (zz10 + 1) (fun (zz15 : Int32) => L_X6_isDone_27 nn1 aa1 pp2 KK7 nn_12 0 zz15 σ11))
 else (if xin ((7 + (3 * zz10)) + 1) nn1 = true then (xlet (σ11 aa1 ((7 + (3 * zz10)) + 1).toNatClampNeg) (fun (zz16 : Int32) => if zz16 = pp2 then (xlet (zz10 + 1) (fun (zz17 : Int32) => L_X6_isDone_27 nn1 aa1 pp2 KK7 nn_12 0 zz17 σ11))
 else (xlet (zz10 + 1) (fun (zz18 : Int32) => L_X6_isDone_27 nn1 aa1 pp2 KK7 nn_12 1 zz18 σ11)))) else none)))) else none
def F_X6_isDone (nn1 aa1 : Nat) (pp2 : Int32) (σ : xS) : Option (Int32 × xS) :=
  xbI (F_X6_of nn1 aa1 pp2 0 σ) (fun (zz2 : Int32) (σ1 : xS) => xjn (fun (zz3 : Int32) (σ4 : xS) => L_X6_isDone_27 nn1 aa1 pp2 (fun (zz5 : Int32) (σ6 : xS) => if vp_nar .boolean zz5 = zz5 then some (zz5, σ6) else none) 1000 zz3 0 σ4)
 (fun (KK20 : Int32 → xS → Option (Int32 × xS)) => xjn (fun (σ22 : xS) => KK20 0 σ22)
 (fun (KK23 : xS → Option (Int32 × xS)) => if ¬ zz2 = 0 then (KK23 σ1)
 else (xbI (F_X6_of nn1 aa1 pp2 6 σ1) (fun (zz26 : Int32) (σ25 : xS) => if ¬ zz26 = 0 then (KK23 σ25)
 else (KK20 1 σ25))))))
def L_X6_untilDone_2 (nn1 : Nat) (aa1 : Nat) (pp2 : Int32) (KK5 : Int32 → xS → Option (Int32 × xS)) : Nat → Int32 → xS → Option (Int32 × xS)
  | 0, _, _ => none
  | nn_9 + 1, zz7, σ8 => if 400 ≤ zz7 then (KK5 zz7 σ8)
 else (xbI (F_X6_isDone nn1 aa1 pp2 σ8) (fun (zz12 : Int32) (σ11 : xS) => if ¬ zz12 = 0 then (KK5 zz7 σ11)
 else (xbV (F_X6_tick nn1 aa1 σ11) (fun (σ13 : xS) => xlet (zz7 + 1) (fun (zz14 : Int32) => L_X6_untilDone_2 nn1 aa1 pp2 KK5 nn_9 zz14 σ13)))))
def F_X6_untilDone (nn1 aa1 : Nat) (pp2 : Int32) (σ : xS) : Option (Int32 × xS) :=
  L_X6_untilDone_2 nn1 aa1 pp2 (fun (zz1 : Int32) (σ2 : xS) => xbI (F_X6_isDone nn1 aa1 pp2 σ2) (fun (zz4 : Int32) (σ3 : xS) => if zz4 = 0 then (some ((-1 : Int32), σ3))
 else (some (zz1, σ3)))) 1000 0 σ
def F_X6_thrown (oo0 : Nat) (σ : xS) : Option (Int32 × xS) :=
  some ((σ oo0 0), σ)
def F_X6_refused (oo0 : Nat) (pp1 : Int32) (σ : xS) : Option (Int32 × xS) :=
  xlet (xu σ oo0 0 pp1) (fun (σ1 : xS) => if pp1 ≤ 0 then (some ((0 : Int32), σ1))
 else (some ((1 : Int32), σ1)))
def F_X6_append (oo0 : Nat) (pp1 : Int32) (σ : xS) : Option (Int32 × xS) :=
  xbI (F_X6_in pp1.toInt64 0 255 σ) (fun (zz2 : Int32) (σ1 : xS) => xjn (fun (zz3 : Int32) (σ4 : xS) => xbI (F_X6_refused oo0 zz3 σ4) (fun (zz6 : Int32) (σ5 : xS) => if zz6 = 0 then (if xin (σ5 oo0 2) 120 = true then (xlet (xu σ5 (oo0 + 1) (σ5 oo0 2).toNatClampNeg pp1) (fun (σ7 : xS) => xlet (xu σ7 oo0 2 ((σ7 oo0 2) + 1)) (fun (σ8 : xS) => some ((σ8 oo0 2), σ8)))) else none)
 else (some ((0 : Int32), σ5))))
 (fun (KK9 : Int32 → xS → Option (Int32 × xS)) => if ¬ zz2 = 0 then (if ¬ (σ1 oo0 2) = 120 then (KK9 0 σ1)
 else (KK9 2 σ1))
 else (KK9 1 σ1)))
def F_X6_clearText (oo0 : Nat) (σ : xS) : Option (Int32 × xS) :=
  xlet (xu σ oo0 0 0) (fun (σ1 : xS) => xlet (σ1 oo0 2) (fun (zz2 : Int32) => xlet (xu σ1 oo0 2 0) (fun (σ3 : xS) => some (zz2, σ3))))
def L_X6_figures_26 (oo0 : Nat) (pp1 : Int32) (pp3 : Int32) (pp4 : Int32) (KK4 : xS → Option (Int32 × xS)) (KK8 : Int32 → xS → Option (Int32 × xS)) : Nat → Int32 → Int32 → xS → Option (Int32 × xS)
  | 0, _, _, _ => none
  | nn_13 + 1, zz10, zz11, σ12 => if zz11 ≤ 0 then (KK8 zz10 σ12)
 else (if pp1 = ((-1)) then (KK8 zz10 σ12)
 else (xjn (fun (zz15 : Int32) (σ16 : xS) => xlet (zz10 + (zz15 * zz11)) (fun (zz17 : Int32) => xbI (F_X6_in zz15.toInt64 0 9 σ16) (fun (zz19 : Int32) (σ18 : xS) => if zz19 = 0 then (KK4 σ18)
 else (if pp4 < zz17 then (KK4 σ18)
 else (if pp3 ≤ ((zz17 + zz11) - 1) then (xlet (xu σ18 oo0 10 ((σ18 oo0 10) + 1)) (fun (σ20 : xS) => xlet (zz11 / 10) (fun (zz21 : Int32) => L_X6_figures_26 oo0 pp1 pp3 pp4 KK4 KK8 nn_13 zz17 zz21 σ20)))
 else (KK4 σ18))))))
 (fun (KK22 : Int32 → xS → Option (Int32 × xS)) => if (σ12 oo0 2) ≤ (σ12 oo0 10) then (KK22 ((-1)) σ12)
 else (if xin (σ12 oo0 10) 120 = true then (xlet (σ12 (oo0 + 1) (σ12 oo0 10).toNatClampNeg) (fun (zz24 : Int32) => KK22 (zz24 - 48) σ12)) else none))))
def F_X6_figures (oo0 : Nat) (pp1 : Int32) (pp2 : Int32) (pp3 : Int32) (pp4 : Int32) (σ : xS) : Option (Int32 × xS) :=
  xjn (fun (zz1 : Int32) (σ2 : xS) => L_X6_figures_26 oo0 pp1 pp3 pp4 (fun (σ3 : xS) => some ((-1 : Int32), σ3)) (fun (zz6 : Int32) (σ7 : xS) => if ¬ pp1 = ((-1)) then (some (zz6, σ7))
 else (some ((-1 : Int32), σ7))) 1000 0 zz1 σ2)
 (fun (KK26 : Int32 → xS → Option (Int32 × xS)) => if ¬ pp2 = 3 then (if ¬ pp2 = 2 then (KK26 1 σ)
 else (KK26 10 σ))
 else (KK26 100 σ))
def F_X6_done (oo0 : Nat) (pp1 : Int32) (σ : xS) : Option (Int32 × xS) :=
  if pp1 = 0 then (xlet (xu σ oo0 11 ((σ oo0 11) + 1)) (fun (σ1 : xS) => some ((1 : Int32), σ1)))
 else (xlet (xu σ oo0 11 ((σ oo0 11) + 0)) (fun (σ2 : xS) => some ((1 : Int32), σ2)))
def F_X6_readCommand (oo0 : Nat) (nn1 aa1 : Nat) (σ : xS) : Option (Int32 × xS) :=
  if xin (σ oo0 10) 120 = true then (xlet (σ (oo0 + 1) (σ oo0 10).toNatClampNeg) (fun (zz1 : Int32) => xlet (xu σ oo0 10 ((σ oo0 10) + 1)) (fun (σ2 : xS) => if zz1 = 102 then (xbI (F_X6_figures oo0 0 1 0 3 σ2) (fun (zz4 : Int32) (σ3 : xS) => if zz4 = ((-1)) then (some ((0 : Int32), σ3))
 else (xbI (F_X6_isWriter nn1 aa1 zz4 σ3) (fun (zz6 : Int32) (σ5 : xS) => xjn (fun (zz7 : Int32) (σ8 : xS) => xbI (F_X6_done oo0 zz7 σ8) (fun (zz10 : Int32) (σ9 : xS) => if zz10 = 0 then (some ((0 : Int32), σ9))
 else (some ((1 : Int32), σ9))))
 (fun (KK11 : Int32 → xS → Option (Int32 × xS)) => xjn (fun (σ13 : xS) => KK11 0 σ13)
 (fun (KK14 : xS → Option (Int32 × xS)) => if zz6 = 0 then (KK14 σ5)
 else (xbI (F_X6_sends nn1 aa1 zz4 0 σ5) (fun (zz17 : Int32) (σ16 : xS) => if zz17 < 0 then (KK14 σ16)
 else (KK11 1 σ16)))))))))
 else (if zz1 = 104 then (xbI (F_X6_figures oo0 0 1 0 3 σ2) (fun (zz20 : Int32) (σ19 : xS) => xbI (F_X6_figures oo0 zz20 1 0 1 σ19) (fun (zz22 : Int32) (σ21 : xS) => if zz22 = ((-1)) then (some ((0 : Int32), σ21))
 else (xbI (F_X6_isWriter nn1 aa1 zz20 σ21) (fun (zz24 : Int32) (σ23 : xS) => xjn (fun (zz25 : Int32) (σ26 : xS) => xbI (F_X6_done oo0 zz25 σ26) (fun (zz28 : Int32) (σ27 : xS) => if zz28 = 0 then (some ((0 : Int32), σ27))
 else (some ((1 : Int32), σ27))))
 (fun (KK29 : Int32 → xS → Option (Int32 × xS)) => xjn (fun (σ31 : xS) => KK29 0 σ31)
 (fun (KK32 : xS → Option (Int32 × xS)) => if zz24 = 0 then (KK32 σ23)
 else (xjn (fun (zz34 : Int32) (σ35 : xS) => xbI (F_X6_holdOn nn1 aa1 zz20 zz34 σ35) (fun (zz37 : Int32) (σ36 : xS) => if zz37 < 0 then (KK32 σ36)
 else (KK29 1 σ36)))
 (fun (KK38 : Int32 → xS → Option (Int32 × xS)) => if ¬ zz22 = 1 then (KK38 0 σ23)
 else (KK38 1 σ23))))))))))
 else (if zz1 = 112 then (xbI (F_X6_figures oo0 0 2 1 99 σ2) (fun (zz42 : Int32) (σ41 : xS) => xbI (F_X6_figures oo0 zz42 1 0 3 σ41) (fun (zz44 : Int32) (σ43 : xS) => xbI (F_X6_figures oo0 zz44 3 1 500 σ43) (fun (zz46 : Int32) (σ45 : xS) => if zz46 = ((-1)) then (some ((0 : Int32), σ45))
 else (xbI (F_X6_isWriter nn1 aa1 zz44 σ45) (fun (zz48 : Int32) (σ47 : xS) => xjn (fun (zz49 : Int32) (σ50 : xS) => xbI (F_X6_done oo0 zz49 σ50) (fun (zz52 : Int32) (σ51 : xS) => if zz52 = 0 then (some ((0 : Int32), σ51))
 else (some ((1 : Int32), σ51))))
 (fun (KK53 : Int32 → xS → Option (Int32 × xS)) => xjn (fun (σ55 : xS) => KK53 0 σ55)
 (fun (KK56 : xS → Option (Int32 × xS)) => if zz48 = 0 then (KK56 σ47)
 else (if xin (2 : Int32) nn1 = true then (xlet (σ47 aa1 (2 : Int32).toNatClampNeg) (fun (zz58 : Int32) => if 8 ≤ zz58 then (KK56 σ47)
 else (xbI (F_X6_planOn nn1 aa1 zz42 zz44 zz46 σ47) (fun (zz60 : Int32) (σ59 : xS) => if zz60 ≤ 0 then (KK56 σ59)
 else (KK53 1 σ59))))) else none)))))))))
 else (if zz1 = 116 then (xbI (F_X6_figures oo0 0 2 1 99 σ2) (fun (zz63 : Int32) (σ62 : xS) => if zz63 = ((-1)) then (some ((0 : Int32), σ62))
 else (xbI (F_X6_ticksOn nn1 aa1 zz63 σ62) (fun (zz65 : Int32) (σ64 : xS) => xjn (fun (zz66 : Int32) (σ67 : xS) => xbI (F_X6_done oo0 zz66 σ67) (fun (zz69 : Int32) (σ68 : xS) => if zz69 = 0 then (some ((0 : Int32), σ68))
 else (some ((1 : Int32), σ68))))
 (fun (KK70 : Int32 → xS → Option (Int32 × xS)) => if zz65 < 0 then (KK70 0 σ64)
 else (KK70 1 σ64))))))
 else (if zz1 = 119 then (xbI (F_X6_figures oo0 0 1 0 3 σ2) (fun (zz74 : Int32) (σ73 : xS) => xbI (F_X6_figures oo0 zz74 3 1 500 σ73) (fun (zz76 : Int32) (σ75 : xS) => if zz76 = ((-1)) then (some ((0 : Int32), σ75))
 else (xbI (F_X6_isWriter nn1 aa1 zz74 σ75) (fun (zz78 : Int32) (σ77 : xS) => xjn (fun (zz79 : Int32) (σ80 : xS) => xbI (F_X6_done oo0 zz79 σ80) (fun (zz82 : Int32) (σ81 : xS) => if zz82 = 0 then (some ((0 : Int32), σ81))
 else (some ((1 : Int32), σ81))))
 (fun (KK83 : Int32 → xS → Option (Int32 × xS)) => xjn (fun (σ85 : xS) => KK83 0 σ85)
 (fun (KK86 : xS → Option (Int32 × xS)) => if zz78 = 0 then (KK86 σ77)
 else (xbI (F_X6_canWrite nn1 aa1 zz74 zz76 σ77) (fun (zz89 : Int32) (σ88 : xS) => if zz89 = 0 then (KK86 σ88)
 else (xbI (F_X6_writeOn nn1 aa1 zz74 zz76 σ88) (fun (zz91 : Int32) (σ90 : xS) => if zz91 < 0 then (KK86 σ90)
 else (KK83 1 σ90))))))))))))
 else (xlet (xu σ2 oo0 10 ((σ2 oo0 10) - 1)) (fun (σ93 : xS) => some ((0 : Int32), σ93)))))))))) else none
def L_X6_readText_63 (oo0 : Nat) (nn1 : Nat) (aa1 : Nat) (KK10 : xS → Option (Int32 × xS)) (KK13 : xS → Option (Int32 × xS)) : Nat → xS → Option (Int32 × xS)
  | 0, _ => none
  | nn_16 + 1, σ15 => if (σ15 oo0 2) ≤ (σ15 oo0 10) then (KK13 σ15)
 else (xbI (F_X6_readCommand oo0 nn1 aa1 σ15) (fun (zz19 : Int32) (σ18 : xS) => if ¬ zz19 = 0 then (L_X6_readText_63 oo0 nn1 aa1 KK10 KK13 nn_16 σ18)
 else (KK10 σ18)))
def F_X6_readText (oo0 : Nat) (nn1 aa1 : Nat) (σ : xS) : Option (Int32 × xS) :=
  xlet (xu σ oo0 11 0) (fun (σ1 : xS) => xlet (xu σ1 oo0 10 0) (fun (σ2 : xS) => if (σ2 oo0 2) = 0 then (some ((0 : Int32), σ2))
 else (if xin (0 : Int32) 120 = true then (xlet (σ2 (oo0 + 1) (0 : Int32).toNatClampNeg) (fun (zz3 : Int32) => if zz3 = 78 then (xlet (xu σ2 oo0 10 1) (fun (σ4 : xS) => xbI (F_X6_figures oo0 0 1 1 4 σ4) (fun (zz6 : Int32) (σ5 : xS) => if ¬ zz6 = ((-1)) then (xbV (F_X6_clear nn1 aa1 zz6 σ5) (fun (σ7 : xS) => xbV (F_X6_firstSettings nn1 aa1 σ7) (fun (σ8 : xS) => L_X6_readText_63 oo0 nn1 aa1 (fun (σ9 : xS) => some ((σ9 oo0 10), σ9)) (fun (σ12 : xS) => some ((-1 : Int32), σ12)) 1000  σ8)))
 else (some ((σ5 oo0 10), σ5)))))
 else (some ((0 : Int32), σ2)))) else none)))
def F_X6_errorPosition (oo0 : Nat) (σ : xS) : Option (Int32 × xS) :=
  xlet (xu σ oo0 0 0) (fun (σ1 : xS) => xbI (F_X6_readText oo0 187 (oo0 + 3) σ1) (fun (zz3 : Int32) (σ2 : xS) => some (zz3, σ2)))
def F_X6_load (oo0 : Nat) (σ : xS) : Option (Int32 × xS) :=
  xbI (F_X6_readText oo0 187 (oo0 + 3) σ) (fun (zz2 : Int32) (σ1 : xS) => xjn (fun (zz3 : Int32) (σ4 : xS) => xbI (F_X6_refused oo0 zz3 σ4) (fun (zz6 : Int32) (σ5 : xS) => if zz6 = 0 then (xbV (F_X6_copyState 187 (oo0 + 3) 0 187 (oo0 + 2) 0 σ5) (fun (σ7 : xS) => xlet (xu σ7 oo0 7 0) (fun (σ8 : xS) => if xin (0 : Int32) 2 = true then (xlet (xu σ8 (oo0 + 7) (0 : Int32).toNatClampNeg (vp_nar .boolean (0 : Int32))) (fun (σ9 : xS) => if xin (1 : Int32) 2 = true then (xlet (xu σ9 (oo0 + 7) (1 : Int32).toNatClampNeg (vp_nar .boolean (0 : Int32))) (fun (σ10 : xS) => some ((σ10 oo0 11), σ10))) else none)) else none)))
 else (some ((0 : Int32), σ5))))
 (fun (KK11 : Int32 → xS → Option (Int32 × xS)) => if ¬ zz2 = ((-1)) then (KK11 1 σ1)
 else (KK11 0 σ1)))
def F_X6_about (oo0 : Nat) (pp1 : Int32) (σ : xS) : Option (Int32 × xS) :=
  xbI (F_X6_in pp1.toInt64 0 8 σ) (fun (zz2 : Int32) (σ1 : xS) => xjn (fun (zz3 : Int32) (σ4 : xS) => xbI (F_X6_refused oo0 zz3 σ4) (fun (zz6 : Int32) (σ5 : xS) => if zz6 = 0 then (if pp1 = 3 then (xbI (F_X6_sum 187 (oo0 + 2) 0 σ5) (fun (zz8 : Int32) (σ7 : xS) => some (zz8, σ7)))
 else (if pp1 = 4 then (xbI (F_X6_sum 187 (oo0 + 2) 6 σ5) (fun (zz11 : Int32) (σ10 : xS) => some (zz11, σ10)))
 else (if pp1 = 5 then (xbI (F_X6_sum 187 (oo0 + 2) 3 σ5) (fun (zz14 : Int32) (σ13 : xS) => some (zz14, σ13)))
 else (if pp1 = 6 then (xbI (F_X6_sum 187 (oo0 + 2) 12 σ5) (fun (zz17 : Int32) (σ16 : xS) => some (zz17, σ16)))
 else (if pp1 = 7 then (xbI (F_X6_sum 187 (oo0 + 2) 8 σ5) (fun (zz20 : Int32) (σ19 : xS) => some (zz20, σ19)))
 else (if pp1 = 8 then (xbI (F_X6_sum 187 (oo0 + 2) 4 σ5) (fun (zz23 : Int32) (σ22 : xS) => some (zz23, σ22)))
 else (if xin pp1 187 = true then (xlet (σ5 (oo0 + 2) pp1.toNatClampNeg) (fun (zz25 : Int32) => some (zz25, σ5))) else none)))))))
 else (some ((0 : Int32), σ5))))
 (fun (KK26 : Int32 → xS → Option (Int32 × xS)) => if zz2 = 0 then (KK26 1 σ1)
 else (KK26 0 σ1)))
def F_X6_writer (oo0 : Nat) (pp1 : Int32) (pp2 : Int32) (σ : xS) : Option (Int32 × xS) :=
  xbI (F_X6_isWriter 187 (oo0 + 2) pp1 σ) (fun (zz2 : Int32) (σ1 : xS) => xjn (fun (zz3 : Int32) (σ4 : xS) => xbI (F_X6_refused oo0 zz3 σ4) (fun (zz6 : Int32) (σ5 : xS) => if zz6 = 0 then (if ¬ pp2 = 0 then (if ¬ pp2 = 1 then (xbI (F_X6_of 187 (oo0 + 2) pp1 (pp2 - 1) σ5) (fun (zz8 : Int32) (σ7 : xS) => some (zz8, σ7)))
 else (xbI (F_X6_of 187 (oo0 + 2) pp1 6 σ5) (fun (zz10 : Int32) (σ9 : xS) => some (zz10, σ9))))
 else (xbI (F_X6_of 187 (oo0 + 2) pp1 0 σ5) (fun (zz12 : Int32) (σ11 : xS) => some (zz12, σ11))))
 else (some ((0 : Int32), σ5))))
 (fun (KK13 : Int32 → xS → Option (Int32 × xS)) => if ¬ zz2 = 0 then (xbI (F_X6_in pp2.toInt64 0 6 σ1) (fun (zz16 : Int32) (σ15 : xS) => if zz16 = 0 then (KK13 2 σ15)
 else (KK13 0 σ15)))
 else (KK13 1 σ1)))
def F_X6_desk (oo0 : Nat) (pp1 : Int32) (pp2 : Int32) (σ : xS) : Option (Int32 × xS) :=
  xbI (F_X6_isWriter 187 (oo0 + 2) pp1 σ) (fun (zz2 : Int32) (σ1 : xS) => xjn (fun (zz3 : Int32) (σ4 : xS) => xbI (F_X6_refused oo0 zz3 σ4) (fun (zz6 : Int32) (σ5 : xS) => if zz6 = 0 then (xbI (F_X6_of 187 (oo0 + 2) pp1 (8 + pp2) σ5) (fun (zz8 : Int32) (σ7 : xS) => some (zz8, σ7)))
 else (some ((0 : Int32), σ5))))
 (fun (KK9 : Int32 → xS → Option (Int32 × xS)) => if ¬ zz2 = 0 then (xbI (F_X6_in pp2.toInt64 0 5 σ1) (fun (zz12 : Int32) (σ11 : xS) => if zz12 = 0 then (KK9 2 σ11)
 else (KK9 0 σ11)))
 else (KK9 1 σ1)))
def F_X6_letter (oo0 : Nat) (pp1 : Int32) (pp2 : Int32) (pp3 : Int32) (σ : xS) : Option (Int32 × xS) :=
  xbI (F_X6_isWriter 187 (oo0 + 2) pp1 σ) (fun (zz2 : Int32) (σ1 : xS) => xjn (fun (zz3 : Int32) (σ4 : xS) => xbI (F_X6_refused oo0 zz3 σ4) (fun (zz6 : Int32) (σ5 : xS) => if zz6 = 0 then (xbI (F_X6_of 187 (oo0 + 2) pp1 ((15 + (2 * pp2)) + pp3) σ5) (fun (zz8 : Int32) (σ7 : xS) => some (zz8, σ7)))
 else (some ((0 : Int32), σ5))))
 (fun (KK9 : Int32 → xS → Option (Int32 × xS)) => xjn (fun (σ11 : xS) => KK9 1 σ11)
 (fun (KK12 : xS → Option (Int32 × xS)) => if zz2 = 0 then (KK12 σ1)
 else (xbI (F_X6_of 187 (oo0 + 2) pp1 6 σ1) (fun (zz15 : Int32) (σ14 : xS) => xbI (F_X6_in pp2.toInt64 0 ((zz15 - 1).toInt64) σ14) (fun (zz17 : Int32) (σ16 : xS) => if ¬ zz17 = 0 then (xbI (F_X6_in pp3.toInt64 0 1 σ16) (fun (zz19 : Int32) (σ18 : xS) => if zz19 = 0 then (KK9 2 σ18)
 else (KK9 0 σ18)))
 else (KK12 σ16)))))))
def F_X6_planned (oo0 : Nat) (pp1 : Int32) (pp2 : Int32) (σ : xS) : Option (Int32 × xS) :=
  if xin (2 : Int32) 187 = true then (xlet (σ (oo0 + 2) (2 : Int32).toNatClampNeg) (fun (zz1 : Int32) => xbI (F_X6_in pp1.toInt64 0 ((zz1 - 1).toInt64) σ) (fun (zz3 : Int32) (σ2 : xS) => xjn (fun (zz4 : Int32) (σ5 : xS) => xbI (F_X6_refused oo0 zz4 σ5) (fun (zz7 : Int32) (σ6 : xS) => if zz7 = 0 then (if xin ((7 + (3 * pp1)) + pp2) 187 = true then (xlet (σ6 (oo0 + 2) ((7 + (3 * pp1)) + pp2).toNatClampNeg) (fun (zz8 : Int32) => some (zz8, σ6))) else none)
 else (some ((0 : Int32), σ6))))
 (fun (KK9 : Int32 → xS → Option (Int32 × xS)) => if ¬ zz3 = 0 then (xbI (F_X6_in pp2.toInt64 0 2 σ2) (fun (zz12 : Int32) (σ11 : xS) => if zz12 = 0 then (KK9 2 σ11)
 else (KK9 0 σ11)))
 else (KK9 1 σ2))))) else none
def F_X6_setting (oo0 : Nat) (pp1 : Int32) (σ : xS) : Option (Int32 × xS) :=
  xbI (F_X6_in pp1.toInt64 0 3 σ) (fun (zz2 : Int32) (σ1 : xS) => xjn (fun (zz3 : Int32) (σ4 : xS) => xbI (F_X6_refused oo0 zz3 σ4) (fun (zz6 : Int32) (σ5 : xS) => if zz6 = 0 then (if xin (3 + pp1) 187 = true then (xlet (σ5 (oo0 + 2) (3 + pp1).toNatClampNeg) (fun (zz7 : Int32) => some (zz7, σ5))) else none)
 else (some ((0 : Int32), σ5))))
 (fun (KK8 : Int32 → xS → Option (Int32 × xS)) => if zz2 = 0 then (KK8 1 σ1)
 else (KK8 0 σ1)))
def L_X6_remember_11 (oo0 : Nat) (KK8 : xS → Option xS) : Nat → Int32 → xS → Option xS
  | 0, _, _ => none
  | nn_12 + 1, zz10, σ11 => if 2431 ≤ zz10 then (KK8 σ11)
 else (if xin (zz10 + 187) 2618 = true then (xlet (σ11 (oo0 + 5) (zz10 + 187).toNatClampNeg) (fun (zz14 : Int32) => if xin zz10 2618 = true then (xlet (xu σ11 (oo0 + 5) zz10.toNatClampNeg zz14) (fun (σ15 : xS) => xlet (zz10 + 1) (fun (zz16 : Int32) => L_X6_remember_11 oo0 KK8 nn_12 zz16 σ15))) else none)) else none)
def F_X6_remember (oo0 : Nat) (σ : xS) : Option xS :=
  xjn (fun (σ1 : xS) => xbV (F_X6_copyState 187 (oo0 + 2) 0 2618 (oo0 + 5) (187 * (σ1 oo0 7)) σ1) (fun (σ2 : xS) => xlet (xu σ2 oo0 7 ((σ2 oo0 7) + 1)) (fun (σ3 : xS) => some σ3)))
 (fun (KK4 : xS → Option xS) => if ¬ (σ oo0 7) = 14 then (KK4 σ)
 else (L_X6_remember_11 oo0 (fun (σ6 : xS) => xlet (xu σ6 oo0 7 ((σ6 oo0 7) - 1)) (fun (σ7 : xS) => KK4 σ7)) 3000 0 σ))
def F_X6_post (oo0 : Nat) (pp1 : Int32) (σ : xS) : Option (Int32 × xS) :=
  xbI (F_X6_in pp1.toInt64 1 4 σ) (fun (zz2 : Int32) (σ1 : xS) => xjn (fun (zz3 : Int32) (σ4 : xS) => xbI (F_X6_refused oo0 zz3 σ4) (fun (zz6 : Int32) (σ5 : xS) => if zz6 = 0 then (xbV (F_X6_remember oo0 σ5) (fun (σ7 : xS) => xbV (F_X6_clear 187 (oo0 + 2) pp1 σ7) (fun (σ8 : xS) => some (pp1, σ8))))
 else (some ((0 : Int32), σ5))))
 (fun (KK9 : Int32 → xS → Option (Int32 × xS)) => if zz2 = 0 then (KK9 1 σ1)
 else (KK9 0 σ1)))
def F_X6_write (oo0 : Nat) (pp1 : Int32) (pp2 : Int32) (σ : xS) : Option (Int32 × xS) :=
  xbI (F_X6_isWriter 187 (oo0 + 2) pp1 σ) (fun (zz2 : Int32) (σ1 : xS) => xjn (fun (zz3 : Int32) (σ4 : xS) => xbI (F_X6_refused oo0 zz3 σ4) (fun (zz6 : Int32) (σ5 : xS) => if zz6 = 0 then (xbV (F_X6_remember oo0 σ5) (fun (σ7 : xS) => xbI (F_X6_writeOn 187 (oo0 + 2) pp1 pp2 σ7) (fun (zz9 : Int32) (σ8 : xS) => some (zz9, σ8))))
 else (some ((0 : Int32), σ5))))
 (fun (KK10 : Int32 → xS → Option (Int32 × xS)) => if ¬ zz2 = 0 then (xbI (F_X6_isNote pp2 σ1) (fun (zz13 : Int32) (σ12 : xS) => if ¬ zz13 = 0 then (xbI (F_X6_canWrite 187 (oo0 + 2) pp1 pp2 σ12) (fun (zz15 : Int32) (σ14 : xS) => if zz15 = 0 then (KK10 3 σ14)
 else (KK10 0 σ14)))
 else (KK10 2 σ12)))
 else (KK10 1 σ1)))
def F_X6_plan (oo0 : Nat) (pp1 : Int32) (pp2 : Int32) (pp3 : Int32) (σ : xS) : Option (Int32 × xS) :=
  xbI (F_X6_isWriter 187 (oo0 + 2) pp2 σ) (fun (zz2 : Int32) (σ1 : xS) => xjn (fun (zz3 : Int32) (σ4 : xS) => xbI (F_X6_refused oo0 zz3 σ4) (fun (zz6 : Int32) (σ5 : xS) => if zz6 = 0 then (xbV (F_X6_remember oo0 σ5) (fun (σ7 : xS) => xbI (F_X6_planOn 187 (oo0 + 2) pp1 pp2 pp3 σ7) (fun (zz9 : Int32) (σ8 : xS) => some (zz9, σ8))))
 else (some ((0 : Int32), σ5))))
 (fun (KK10 : Int32 → xS → Option (Int32 × xS)) => if ¬ zz2 = 0 then (xbI (F_X6_in pp1.toInt64 1 99 σ1) (fun (zz13 : Int32) (σ12 : xS) => xjn (fun (σ14 : xS) => KK10 2 σ14)
 (fun (KK15 : xS → Option (Int32 × xS)) => if zz13 = 0 then (KK15 σ12)
 else (xbI (F_X6_isNote pp3 σ12) (fun (zz18 : Int32) (σ17 : xS) => if ¬ zz18 = 0 then (if xin (2 : Int32) 187 = true then (xlet (σ17 (oo0 + 2) (2 : Int32).toNatClampNeg) (fun (zz19 : Int32) => if 8 ≤ zz19 then (KK10 3 σ17)
 else (KK10 0 σ17))) else none)
 else (KK15 σ17))))))
 else (KK10 1 σ1)))
def F_X6_hold (oo0 : Nat) (pp1 : Int32) (pp2 : Int32) (σ : xS) : Option (Int32 × xS) :=
  xbI (F_X6_isWriter 187 (oo0 + 2) pp1 σ) (fun (zz2 : Int32) (σ1 : xS) => xjn (fun (zz3 : Int32) (σ4 : xS) => xbI (F_X6_refused oo0 zz3 σ4) (fun (zz6 : Int32) (σ5 : xS) => if zz6 = 0 then (xbV (F_X6_remember oo0 σ5) (fun (σ7 : xS) => xbI (F_X6_holdOn 187 (oo0 + 2) pp1 pp2 σ7) (fun (zz9 : Int32) (σ8 : xS) => some (zz9, σ8))))
 else (some ((0 : Int32), σ5))))
 (fun (KK10 : Int32 → xS → Option (Int32 × xS)) => if zz2 = 0 then (KK10 1 σ1)
 else (KK10 0 σ1)))
def F_X6_flush (oo0 : Nat) (pp1 : Int32) (σ : xS) : Option (Int32 × xS) :=
  xbI (F_X6_isWriter 187 (oo0 + 2) pp1 σ) (fun (zz2 : Int32) (σ1 : xS) => xjn (fun (zz3 : Int32) (σ4 : xS) => xbI (F_X6_refused oo0 zz3 σ4) (fun (zz6 : Int32) (σ5 : xS) => if zz6 = 0 then (xbV (F_X6_remember oo0 σ5) (fun (σ7 : xS) => xbI (F_X6_sends 187 (oo0 + 2) pp1 0 σ7) (fun (zz9 : Int32) (σ8 : xS) => some (zz9, σ8))))
 else (some ((0 : Int32), σ5))))
 (fun (KK10 : Int32 → xS → Option (Int32 × xS)) => if zz2 = 0 then (KK10 1 σ1)
 else (KK10 0 σ1)))
def F_X6_ticks (oo0 : Nat) (pp1 : Int32) (σ : xS) : Option (Int32 × xS) :=
  xbI (F_X6_in pp1.toInt64 1 99 σ) (fun (zz2 : Int32) (σ1 : xS) => xjn (fun (zz3 : Int32) (σ4 : xS) => xbI (F_X6_refused oo0 zz3 σ4) (fun (zz6 : Int32) (σ5 : xS) => if zz6 = 0 then (xbV (F_X6_remember oo0 σ5) (fun (σ7 : xS) => xbI (F_X6_ticksOn 187 (oo0 + 2) pp1 σ7) (fun (zz9 : Int32) (σ8 : xS) => some (zz9, σ8))))
 else (some ((0 : Int32), σ5))))
 (fun (KK10 : Int32 → xS → Option (Int32 × xS)) => if ¬ zz2 = 0 then (if xin (1 : Int32) 187 = true then (xlet (σ1 (oo0 + 2) (1 : Int32).toNatClampNeg) (fun (zz12 : Int32) => if (zz12 + pp1) ≤ 99999 then (KK10 0 σ1)
 else (KK10 2 σ1))) else none)
 else (KK10 1 σ1)))
def F_X6_set (oo0 : Nat) (pp1 : Int32) (pp2 : Int32) (σ : xS) : Option (Int32 × xS) :=
  xbI (F_X6_isSetting pp1 pp2 σ) (fun (zz2 : Int32) (σ1 : xS) => xjn (fun (zz3 : Int32) (σ4 : xS) => xbI (F_X6_refused oo0 zz3 σ4) (fun (zz6 : Int32) (σ5 : xS) => if zz6 = 0 then (xbV (F_X6_remember oo0 σ5) (fun (σ7 : xS) => if xin (3 + pp1) 187 = true then (xlet (σ7 (oo0 + 2) (3 + pp1).toNatClampNeg) (fun (zz8 : Int32) => if xin (3 + pp1) 187 = true then (xlet (xu σ7 (oo0 + 2) (3 + pp1).toNatClampNeg pp2) (fun (σ9 : xS) => some (zz8, σ9))) else none)) else none))
 else (some ((0 : Int32), σ5))))
 (fun (KK10 : Int32 → xS → Option (Int32 × xS)) => if zz2 = 0 then (KK10 1 σ1)
 else (KK10 0 σ1)))
def F_X6_undo (oo0 : Nat) (σ : xS) : Option (Int32 × xS) :=
  xjn (fun (zz1 : Int32) (σ2 : xS) => xbI (F_X6_refused oo0 zz1 σ2) (fun (zz4 : Int32) (σ3 : xS) => if zz4 = 0 then (xlet (xu σ3 oo0 7 ((σ3 oo0 7) - 1)) (fun (σ5 : xS) => xbV (F_X6_copyState 2618 (oo0 + 5) (187 * (σ5 oo0 7)) 187 (oo0 + 2) 0 σ5) (fun (σ6 : xS) => some ((σ6 oo0 7), σ6))))
 else (some ((0 : Int32), σ3))))
 (fun (KK7 : Int32 → xS → Option (Int32 × xS)) => if ¬ (σ oo0 7) = 0 then (KK7 0 σ)
 else (KK7 1 σ))
def F_X6_doneIn (oo0 : Nat) (pp1 : Int32) (σ : xS) : Option (Int32 × xS) :=
  xbI (F_X6_isWriter 187 (oo0 + 2) pp1 σ) (fun (zz2 : Int32) (σ1 : xS) => xjn (fun (zz3 : Int32) (σ4 : xS) => xbI (F_X6_refused oo0 zz3 σ4) (fun (zz6 : Int32) (σ5 : xS) => if zz6 = 0 then (xbV (F_X6_copyState 187 (oo0 + 2) 0 187 (oo0 + 3) 0 σ5) (fun (σ7 : xS) => xbI (F_X6_untilDone 187 (oo0 + 3) pp1 σ7) (fun (zz9 : Int32) (σ8 : xS) => some (zz9, σ8))))
 else (some ((0 : Int32), σ5))))
 (fun (KK10 : Int32 → xS → Option (Int32 × xS)) => if zz2 = 0 then (KK10 1 σ1)
 else (KK10 0 σ1)))
def L_X6_thereIn_86 (oo0 : Nat) (pp1 : Int32) (zz13 : Int32) (KK18 : Int32 → xS → Option (Int32 × xS)) : Nat → Int32 → xS → Option (Int32 × xS)
  | 0, _, _ => none
  | nn_22 + 1, zz20, σ21 => if 400 ≤ zz20 then (KK18 zz20 σ21)
 else (xbI (F_X6_of 187 (oo0 + 3) pp1 8 σ21) (fun (zz25 : Int32) (σ24 : xS) => if zz13 ≤ zz25 then (KK18 zz20 σ24)
 else (xbV (F_X6_tick 187 (oo0 + 3) σ24) (fun (σ26 : xS) => xlet (zz20 + 1) (fun (zz27 : Int32) => L_X6_thereIn_86 oo0 pp1 zz13 KK18 nn_22 zz27 σ26)))))
def F_X6_thereIn (oo0 : Nat) (pp1 : Int32) (pp2 : Int32) (σ : xS) : Option (Int32 × xS) :=
  xbI (F_X6_isWriter 187 (oo0 + 2) pp1 σ) (fun (zz2 : Int32) (σ1 : xS) => xjn (fun (zz3 : Int32) (σ4 : xS) => xbI (F_X6_refused oo0 zz3 σ4) (fun (zz6 : Int32) (σ5 : xS) => if zz6 = 0 then (xbI (F_X6_canWrite 187 (oo0 + 2) pp1 pp2 σ5) (fun (zz8 : Int32) (σ7 : xS) => if ¬ zz8 = 0 then (xbV (F_X6_copyState 187 (oo0 + 2) 0 187 (oo0 + 3) 0 σ7) (fun (σ9 : xS) => xbI (F_X6_writeOn 187 (oo0 + 3) pp1 pp2 σ9) (fun (zz11 : Int32) (σ10 : xS) => xbI (F_X6_of 187 (oo0 + 3) pp1 2 σ10) (fun (zz13 : Int32) (σ12 : xS) => L_X6_thereIn_86 oo0 pp1 zz13 (fun (zz14 : Int32) (σ15 : xS) => xbI (F_X6_of 187 (oo0 + 3) pp1 8 σ15) (fun (zz17 : Int32) (σ16 : xS) => if zz13 ≤ zz17 then (some (zz14, σ16))
 else (some ((-1 : Int32), σ16)))) 1000 0 σ12))))
 else (some ((-1 : Int32), σ7))))
 else (some ((0 : Int32), σ5))))
 (fun (KK29 : Int32 → xS → Option (Int32 × xS)) => if ¬ zz2 = 0 then (xbI (F_X6_isNote pp2 σ1) (fun (zz32 : Int32) (σ31 : xS) => if zz32 = 0 then (KK29 2 σ31)
 else (KK29 0 σ31)))
 else (KK29 1 σ1)))
def F_X6_ifHeld (oo0 : Nat) (pp1 : Int32) (pp2 : Int32) (σ : xS) : Option (Int32 × xS) :=
  xbI (F_X6_isWriter 187 (oo0 + 2) pp1 σ) (fun (zz2 : Int32) (σ1 : xS) => xjn (fun (zz3 : Int32) (σ4 : xS) => xbI (F_X6_refused oo0 zz3 σ4) (fun (zz6 : Int32) (σ5 : xS) => if zz6 = 0 then (xbV (F_X6_copyState 187 (oo0 + 2) 0 187 (oo0 + 3) 0 σ5) (fun (σ7 : xS) => xjn (fun (zz8 : Int32) (σ9 : xS) => xbI (F_X6_holdOn 187 (oo0 + 3) pp1 zz8 σ9) (fun (zz11 : Int32) (σ10 : xS) => if 2 ≤ pp2 then (xbI (F_X6_ticksOn 187 (oo0 + 3) 400 σ10) (fun (zz13 : Int32) (σ12 : xS) => xbI (F_X6_of 187 (oo0 + 3) pp1 3 σ12) (fun (zz15 : Int32) (σ14 : xS) => xbI (F_X6_of 187 (oo0 + 2) pp1 3 σ14) (fun (zz17 : Int32) (σ16 : xS) => some ((zz15 - zz17), σ16)))))
 else (xbI (F_X6_untilDone 187 (oo0 + 3) pp1 σ10) (fun (zz19 : Int32) (σ18 : xS) => some (zz19, σ18)))))
 (fun (KK20 : Int32 → xS → Option (Int32 × xS)) => if ¬ (pp2 - pp2 / 2 * 2) = 0 then (KK20 0 σ7)
 else (KK20 1 σ7))))
 else (some ((0 : Int32), σ5))))
 (fun (KK22 : Int32 → xS → Option (Int32 × xS)) => if ¬ zz2 = 0 then (xbI (F_X6_in pp2.toInt64 0 3 σ1) (fun (zz25 : Int32) (σ24 : xS) => if zz25 = 0 then (KK22 2 σ24)
 else (KK22 0 σ24)))
 else (KK22 1 σ1)))
def L_X6_best_49 (oo0 : Nat) (pp1 : Int32) (pp2 : Int32) (KK9 : Int32 → xS → Option (Int32 × xS)) : Nat → Int32 → Int32 → Int32 → xS → Option (Int32 × xS)
  | 0, _, _, _, _ => none
  | nn_15 + 1, zz11, zz12, zz13, σ14 => if 99 < zz13 then (KK9 zz11 σ14)
 else (xbI (F_X6_isSetting pp1 zz13 σ14) (fun (zz18 : Int32) (σ17 : xS) => if zz18 = 0 then (xlet (zz13 + 1) (fun (zz19 : Int32) => L_X6_best_49 oo0 pp1 pp2 KK9 nn_15 zz11 zz12 zz19 σ17))
 else (xbV (F_X6_copyState 187 (oo0 + 2) 0 187 (oo0 + 3) 0 σ17) (fun (σ20 : xS) => if xin (3 + pp1) 187 = true then (xlet (xu σ20 (oo0 + 3) (3 + pp1).toNatClampNeg zz13) (fun (σ21 : xS) => xbI (F_X6_untilDone 187 (oo0 + 3) pp2 σ21) (fun (zz23 : Int32) (σ22 : xS) => xjn (fun (zz24 : Int32) (σ25 : xS) => xjn (fun (zz26 : Int32) (σ27 : xS) => if zz24 = 0 then (xlet (zz13 + 1) (fun (zz28 : Int32) => L_X6_best_49 oo0 pp1 pp2 KK9 nn_15 zz26 zz12 zz28 σ27))
 else (xlet (zz13 + 1) (fun (zz29 : Int32) => L_X6_best_49 oo0 pp1 pp2 KK9 nn_15 zz26 zz23 zz29 σ27)))
 (fun (KK30 : Int32 → xS → Option (Int32 × xS)) => if zz24 = 0 then (KK30 zz11 σ25)
 else (KK30 zz13 σ25)))
 (fun (KK32 : Int32 → xS → Option (Int32 × xS)) => xjn (fun (σ34 : xS) => KK32 0 σ34)
 (fun (KK35 : xS → Option (Int32 × xS)) => if zz23 = ((-1)) then (KK35 σ22)
 else (xjn (fun (σ37 : xS) => KK32 1 σ37)
 (fun (KK38 : xS → Option (Int32 × xS)) => if zz11 = ((-1)) then (KK38 σ22)
 else (if zz12 ≤ zz23 then (KK35 σ22)
 else (KK38 σ22))))))))) else none))))
def F_X6_best (oo0 : Nat) (pp1 : Int32) (pp2 : Int32) (σ : xS) : Option (Int32 × xS) :=
  xbI (F_X6_isWriter 187 (oo0 + 2) pp2 σ) (fun (zz2 : Int32) (σ1 : xS) => xjn (fun (zz3 : Int32) (σ4 : xS) => xbI (F_X6_refused oo0 zz3 σ4) (fun (zz6 : Int32) (σ5 : xS) => if zz6 = 0 then (L_X6_best_49 oo0 pp1 pp2 (fun (zz7 : Int32) (σ8 : xS) => some (zz7, σ8)) 1000 ((-1)) 0 0 σ5)
 else (some ((0 : Int32), σ5))))
 (fun (KK41 : Int32 → xS → Option (Int32 × xS)) => if ¬ zz2 = 0 then (xbI (F_X6_in pp1.toInt64 1 2 σ1) (fun (zz44 : Int32) (σ43 : xS) => if zz44 = 0 then (KK41 2 σ43)
 else (KK41 0 σ43)))
 else (KK41 1 σ1)))
def F_X6_isDoneIn (oo0 : Nat) (pp1 : Int32) (pp2 : Int32) (σ : xS) : Option (Int32 × xS) :=
  xbV (F_X6_copyState 187 (oo0 + 3) 0 187 (oo0 + 4) 0 σ) (fun (σ1 : xS) => xbI (F_X6_untilDone 187 (oo0 + 4) pp1 σ1) (fun (zz3 : Int32) (σ2 : xS) => if zz3 = ((-1)) then (some ((0 : Int32), σ2))
 else (if pp2 < zz3 then (some ((0 : Int32), σ2))
 else (some ((1 : Int32), σ2)))))
def F_X6_mayTick (oo0 : Nat) (pp1 : Int32) (σ : xS) : Option (Int32 × xS) :=
  xbI (F_X6_in pp1.toInt64 1 99 σ) (fun (zz2 : Int32) (σ1 : xS) => if zz2 = 0 then (some ((0 : Int32), σ1))
 else (if xin (1 : Int32) 187 = true then (xlet (σ1 (oo0 + 3) (1 : Int32).toNatClampNeg) (fun (zz3 : Int32) => if 99999 < (zz3 + pp1) then (some ((0 : Int32), σ1))
 else (some ((1 : Int32), σ1)))) else none))
def F_X6_command (oo0 : Nat) (pp1 : Int32) (pp2 : Int32) (σ : xS) : Option (Int32 × xS) :=
  xlet (pp2 / 1000) (fun (zz1 : Int32) => xlet (pp2 - pp2 / 1000 * 1000) (fun (zz2 : Int32) => xbI (F_X6_isWriter 187 (oo0 + 3) zz1 σ) (fun (zz4 : Int32) (σ3 : xS) => if pp1 = 1 then (if zz4 = 0 then (some ((0 : Int32), σ3))
 else (xbI (F_X6_isNote zz2 σ3) (fun (zz6 : Int32) (σ5 : xS) => if zz6 = 0 then (some ((0 : Int32), σ5))
 else (xbI (F_X6_canWrite 187 (oo0 + 3) zz1 zz2 σ5) (fun (zz8 : Int32) (σ7 : xS) => if zz8 = 0 then (some ((0 : Int32), σ7))
 else (xbI (F_X6_writeOn 187 (oo0 + 3) zz1 zz2 σ7) (fun (zz10 : Int32) (σ9 : xS) => if zz10 < 0 then (some ((0 : Int32), σ9))
 else (some ((1 : Int32), σ9)))))))))
 else (if pp1 = 2 then (xbI (F_X6_mayTick oo0 pp2 σ3) (fun (zz13 : Int32) (σ12 : xS) => if zz13 = 0 then (some ((0 : Int32), σ12))
 else (xbI (F_X6_ticksOn 187 (oo0 + 3) pp2 σ12) (fun (zz15 : Int32) (σ14 : xS) => if zz15 < 0 then (some ((0 : Int32), σ14))
 else (some ((1 : Int32), σ14))))))
 else (if pp1 = 3 then (if zz4 = 0 then (some ((0 : Int32), σ3))
 else (if 2 ≤ zz2 then (some ((0 : Int32), σ3))
 else (xjn (fun (zz17 : Int32) (σ18 : xS) => xbI (F_X6_holdOn 187 (oo0 + 3) zz1 zz17 σ18) (fun (zz20 : Int32) (σ19 : xS) => if zz20 < 0 then (some ((0 : Int32), σ19))
 else (some ((1 : Int32), σ19))))
 (fun (KK21 : Int32 → xS → Option (Int32 × xS)) => if ¬ zz2 = 1 then (KK21 0 σ3)
 else (KK21 1 σ3)))))
 else (if pp1 = 4 then (if zz4 = 0 then (some ((0 : Int32), σ3))
 else (if ¬ zz2 = 0 then (some ((0 : Int32), σ3))
 else (xbI (F_X6_sends 187 (oo0 + 3) zz1 0 σ3) (fun (zz25 : Int32) (σ24 : xS) => if zz25 < 0 then (some ((0 : Int32), σ24))
 else (some ((1 : Int32), σ24))))))
 else (if pp1 = 5 then (if 99 < zz2 then (some ((0 : Int32), σ3))
 else (xbI (F_X6_isSetting zz1 zz2 σ3) (fun (zz28 : Int32) (σ27 : xS) => if ¬ zz28 = 0 then (if xin (3 + zz1) 187 = true then (xlet (xu σ27 (oo0 + 3) (3 + zz1).toNatClampNeg zz2) (fun (σ29 : xS) => some ((1 : Int32), σ29))) else none)
 else (some ((0 : Int32), σ27)))))
 else (if pp1 = 6 then (if zz4 = 0 then (some ((0 : Int32), σ3))
 else (if 100 ≤ zz2 then (some ((0 : Int32), σ3))
 else (xbI (F_X6_of 187 (oo0 + 3) zz1 6 σ3) (fun (zz32 : Int32) (σ31 : xS) => if zz2 < zz32 then (some ((0 : Int32), σ31))
 else (some ((1 : Int32), σ31))))))
 else (if pp1 = 7 then (if zz4 = 0 then (some ((0 : Int32), σ3))
 else (xbI (F_X6_of 187 (oo0 + 3) zz1 0 σ3) (fun (zz35 : Int32) (σ34 : xS) => if zz2 < zz35 then (some ((0 : Int32), σ34))
 else (some ((1 : Int32), σ34)))))
 else (if pp1 = 8 then (if zz4 = 0 then (some ((0 : Int32), σ3))
 else (xbI (F_X6_isDoneIn oo0 zz1 zz2 σ3) (fun (zz38 : Int32) (σ37 : xS) => if zz38 = 0 then (some ((0 : Int32), σ37))
 else (some ((1 : Int32), σ37)))))
 else (if pp1 = 9 then (if 100 ≤ pp2 then (some ((0 : Int32), σ3))
 else (xbI (F_X6_sum 187 (oo0 + 3) 12 σ3) (fun (zz41 : Int32) (σ40 : xS) => if pp2 < zz41 then (some ((0 : Int32), σ40))
 else (some ((1 : Int32), σ40)))))
 else (some ((0 : Int32), σ3)))))))))))))
def L_X6_runScript_86 (oo0 : Nat) (pp1 : Int32) (pp2 : Int64) (KK12 : Int32 → xS → Option (Int32 × xS)) (KK15 : xS → Option (Int32 × xS)) : Nat → Int64 → Int32 → xS → Option (Int32 × xS)
  | 0, _, _, _ => none
  | nn_20 + 1, zz17, zz18, σ19 => if pp1 ≤ zz18 then (KK15 σ19)
 else (xlet (zz17 / 100000) (fun (zz22 : Int64) => if ¬ zz22 = 0 then (xlet (((pp2 / zz22) - (pp2 / zz22) / 100000 * 100000).toInt32) (fun (zz24 : Int32) => xbI (F_X6_command oo0 (zz24 / 10000) (zz24 - zz24 / 10000 * 10000) σ19) (fun (zz26 : Int32) (σ25 : xS) => if ¬ zz26 = 0 then (xlet (zz18 + 1) (fun (zz27 : Int32) => L_X6_runScript_86 oo0 pp1 pp2 KK12 KK15 nn_20 zz22 zz27 σ25))
 else (KK12 zz18 σ25)))) else none))
def L_X6_runScript_6 (pp1 : Int32) (KK36 : Int64 → xS → Option (Int32 × xS)) : Nat → Int64 → Int32 → xS → Option (Int32 × xS)
  | 0, _, _, _ => none
  | nn_41 + 1, zz38, zz39, σ40 => if pp1 ≤ zz39 then (KK36 zz38 σ40)
 else (if 3 ≤ zz39 then (KK36 zz38 σ40)
 else (xlet (zz38 * 100000) (fun (zz43 : Int64) => xlet (zz39 + 1) (fun (zz44 : Int32) => L_X6_runScript_6 pp1 KK36 nn_41 zz43 zz44 σ40))))
def F_X6_runScript (oo0 : Nat) (pp1 : Int32) (pp2 : Int64) (σ : xS) : Option (Int32 × xS) :=
  L_X6_runScript_6 pp1 (fun (zz1 : Int64) (σ2 : xS) => xbI (F_X6_in pp1.toInt64 1 3 σ2) (fun (zz4 : Int32) (σ3 : xS) => xjn (fun (zz5 : Int32) (σ6 : xS) => xbI (F_X6_refused oo0 zz5 σ6) (fun (zz8 : Int32) (σ7 : xS) => if zz8 = 0 then (xbV (F_X6_copyState 187 (oo0 + 2) 0 187 (oo0 + 3) 0 σ7) (fun (σ9 : xS) => L_X6_runScript_86 oo0 pp1 pp2 (fun (zz10 : Int32) (σ11 : xS) => some (zz10, σ11)) (fun (σ14 : xS) => some ((-1 : Int32), σ14)) 1000 zz1 0 σ9))
 else (some ((0 : Int32), σ7))))
 (fun (KK29 : Int32 → xS → Option (Int32 × xS)) => xjn (fun (σ31 : xS) => KK29 1 σ31)
 (fun (KK32 : xS → Option (Int32 × xS)) => if zz4 = 0 then (KK32 σ3)
 else (xbI (F_X6_in pp2 0 (zz1 - 1) σ3) (fun (zz35 : Int32) (σ34 : xS) => if zz35 = 0 then (KK32 σ34)
 else (KK29 0 σ34))))))) 1000 1 0 σ
def F_X6_turn (oo0 : Nat) (nn1 aa1 : Nat) (pp2 : Int32) (σ : xS) : Option xS :=
  xlet (pp2 / 8) (fun (zz1 : Int32) => xlet (zz1 - zz1 / 4 * 4) (fun (zz2 : Int32) => xlet (pp2 - pp2 / 8 * 8) (fun (zz3 : Int32) => if 3 ≤ zz3 then (if ¬ zz3 = 3 then (if ¬ zz3 = 4 then (xbI (F_X6_mayTick oo0 (1 + (zz1 - zz1 / 9 * 9)) σ) (fun (zz5 : Int32) (σ4 : xS) => if zz5 = 0 then (some σ4)
 else (xbI (F_X6_ticksOn nn1 aa1 (1 + (zz1 - zz1 / 9 * 9)) σ4) (fun (zz7 : Int32) (σ6 : xS) => some σ6))))
 else (xbI (F_X6_isWriter nn1 aa1 zz2 σ) (fun (zz9 : Int32) (σ8 : xS) => xjn (fun (σ10 : xS) => xbI (F_X6_isWriter nn1 aa1 zz2 σ10) (fun (zz12 : Int32) (σ11 : xS) => if zz12 = 0 then (some σ11)
 else (xbI (F_X6_sends nn1 aa1 zz2 0 σ11) (fun (zz14 : Int32) (σ13 : xS) => some σ13))))
 (fun (KK15 : xS → Option xS) => if zz9 = 0 then (KK15 σ8)
 else (if ¬ ((zz1 / 8) - (zz1 / 8) / 3 * 3) = 0 then (KK15 σ8)
 else (if ¬ ((zz1 / 4) - (zz1 / 4) / 2 * 2) = 1 then (xbI (F_X6_holdOn nn1 aa1 zz2 0 σ8) (fun (zz18 : Int32) (σ17 : xS) => some σ17))
 else (xbI (F_X6_holdOn nn1 aa1 zz2 1 σ8) (fun (zz20 : Int32) (σ19 : xS) => some σ19))))))))
 else (xbI (F_X6_isWriter nn1 aa1 zz2 σ) (fun (zz22 : Int32) (σ21 : xS) => if zz22 = 0 then (some σ21)
 else (if xin (2 : Int32) nn1 = true then (xlet (σ21 aa1 (2 : Int32).toNatClampNeg) (fun (zz23 : Int32) => if 8 ≤ zz23 then (some σ21)
 else (xbI (F_X6_planOn nn1 aa1 (1 + ((zz1 / 4) - (zz1 / 4) / 30 * 30)) zz2 (1 + ((zz1 / 256) - (zz1 / 256) / 60 * 60)) σ21) (fun (zz25 : Int32) (σ24 : xS) => some σ24)))) else none))))
 else (xbI (F_X6_isWriter nn1 aa1 zz2 σ) (fun (zz27 : Int32) (σ26 : xS) => if zz27 = 0 then (some σ26)
 else (xbI (F_X6_canWrite nn1 aa1 zz2 (1 + ((zz1 / 4) - (zz1 / 4) / 60 * 60)) σ26) (fun (zz29 : Int32) (σ28 : xS) => if zz29 = 0 then (some σ28)
 else (xbI (F_X6_writeOn nn1 aa1 zz2 (1 + ((zz1 / 4) - (zz1 / 4) / 60 * 60)) σ28) (fun (zz31 : Int32) (σ30 : xS) => some σ30)))))))))
def L_X6_simulate_45 (oo0 : Nat) (pp2 : Int32) (KK23 : xS → Option (Int32 × xS)) : Nat → Int64 → Int32 → xS → Option (Int32 × xS)
  | 0, _, _, _ => none
  | nn_28 + 1, zz25, zz26, σ27 => if pp2 ≤ zz26 then (KK23 σ27)
 else (xlet ((zz25 * 6364136223846793005) + 1442695040888963407) (fun (zz30 : Int64) => xbV (F_X6_turn oo0 187 (oo0 + 3) (((zz30.toUInt64 >>> ((33 : Int32).toInt64.toUInt64 &&& Int64.toUInt64 63)).toInt64).toInt32) σ27) (fun (σ31 : xS) => xlet (zz26 + 1) (fun (zz32 : Int32) => L_X6_simulate_45 oo0 pp2 KK23 nn_28 zz30 zz32 σ31))))
def F_X6_simulate (oo0 : Nat) (pp1 : Int64) (pp2 : Int32) (σ : xS) : Option (Int32 × xS) :=
  xbI (F_X6_in pp2.toInt64 1 60 σ) (fun (zz2 : Int32) (σ1 : xS) => xjn (fun (zz3 : Int32) (σ4 : xS) => xbI (F_X6_refused oo0 zz3 σ4) (fun (zz6 : Int32) (σ5 : xS) => if zz6 = 0 then (xbV (F_X6_copyState 187 (oo0 + 2) 0 187 (oo0 + 3) 0 σ5) (fun (σ7 : xS) => L_X6_simulate_45 oo0 pp2 (fun (σ8 : xS) => xbI (F_X6_sum 187 (oo0 + 3) 3 σ8) (fun (zz10 : Int32) (σ9 : xS) => xbI (F_X6_sum 187 (oo0 + 2) 3 σ9) (fun (zz12 : Int32) (σ11 : xS) => xlet (zz10 - zz12) (fun (zz13 : Int32) => xbI (F_X6_sum 187 (oo0 + 3) 4 σ11) (fun (zz15 : Int32) (σ14 : xS) => xbI (F_X6_sum 187 (oo0 + 2) 4 σ14) (fun (zz17 : Int32) (σ16 : xS) => xlet (zz15 - zz17) (fun (zz18 : Int32) => xjn (fun (zz19 : Int32) (σ20 : xS) => if zz18 ≤ 9999 then (some (((10000 * zz19) + zz18), σ20))
 else (some (((10000 * zz19) + 9999), σ20)))
 (fun (KK21 : Int32 → xS → Option (Int32 × xS)) => if zz13 ≤ 999 then (KK21 zz13 σ16)
 else (KK21 999 σ16))))))))) 1000 pp1 0 σ7))
 else (some ((0 : Int32), σ5))))
 (fun (KK34 : Int32 → xS → Option (Int32 × xS)) => if zz2 = 0 then (KK34 1 σ1)
 else (KK34 0 σ1)))
def F_X6_save (oo0 : Nat) (pp1 : Int32) (σ : xS) : Option (Int32 × xS) :=
  xbI (F_X6_in pp1.toInt64 0 1 σ) (fun (zz2 : Int32) (σ1 : xS) => xjn (fun (zz3 : Int32) (σ4 : xS) => xbI (F_X6_refused oo0 zz3 σ4) (fun (zz6 : Int32) (σ5 : xS) => if zz6 = 0 then (xbV (F_X6_copyState 187 (oo0 + 2) 0 374 (oo0 + 6) (187 * pp1) σ5) (fun (σ7 : xS) => if xin pp1 2 = true then (xlet (xu σ7 (oo0 + 7) pp1.toNatClampNeg (vp_nar .boolean (1 : Int32))) (fun (σ8 : xS) => if xin (1 : Int32) 187 = true then (xlet (σ8 (oo0 + 2) (1 : Int32).toNatClampNeg) (fun (zz9 : Int32) => some (zz9, σ8))) else none)) else none))
 else (some ((0 : Int32), σ5))))
 (fun (KK10 : Int32 → xS → Option (Int32 × xS)) => if zz2 = 0 then (KK10 1 σ1)
 else (KK10 0 σ1)))
def F_X6_restore (oo0 : Nat) (pp1 : Int32) (σ : xS) : Option (Int32 × xS) :=
  xbI (F_X6_in pp1.toInt64 0 1 σ) (fun (zz2 : Int32) (σ1 : xS) => xjn (fun (zz3 : Int32) (σ4 : xS) => xbI (F_X6_refused oo0 zz3 σ4) (fun (zz6 : Int32) (σ5 : xS) => if zz6 = 0 then (xbV (F_X6_copyState 374 (oo0 + 6) (187 * pp1) 187 (oo0 + 2) 0 σ5) (fun (σ7 : xS) => xlet (xu σ7 oo0 7 0) (fun (σ8 : xS) => if xin (1 : Int32) 187 = true then (xlet (σ8 (oo0 + 2) (1 : Int32).toNatClampNeg) (fun (zz9 : Int32) => some (zz9, σ8))) else none)))
 else (some ((0 : Int32), σ5))))
 (fun (KK10 : Int32 → xS → Option (Int32 × xS)) => if ¬ zz2 = 0 then (if xin pp1 2 = true then (xlet (σ1 (oo0 + 7) pp1.toNatClampNeg) (fun (zz12 : Int32) => if ¬ zz12 = 0 then (KK10 0 σ1)
 else (KK10 2 σ1))) else none)
 else (KK10 1 σ1)))
