def L_law (oo1 oo2 aa3 LL : Nat) (xs : Nat → Int32) : Nat → Int32 → xS → Option (Int32 × xS)
  | 0, _, _ => none
  | nn + 1, zz, σ => if ((nI LL) - 4) < zz then (some ((1 : Int32), σ))
 else (if xin zz LL = true then (xlet (xs zz.toNatClampNeg) (fun (zz1 : Int32) => if (zz1 &&& 31) = 0 then (if xin (zz + 1) LL = true then (xlet (xs (zz + 1).toNatClampNeg) (fun (zz2 : Int32) => xbI (F_L_append oo1 zz2 aa3 σ) (fun (zz4 : Int32) (σ3 : xS) => if xin (zz + 1) LL = true then (xlet (xs (zz + 1).toNatClampNeg) (fun (zz5 : Int32) => xbI (F_X6_append oo2 zz5 σ3) (fun (zz7 : Int32) (σ6 : xS) => xbI (F_X6_thrown oo2 σ6) (fun (zz9 : Int32) (σ8 : xS) => if zz9 = zz4 then (if ¬ zz4 = 0 then (xlet (zz + 4) (fun (zz10 : Int32) => L_law oo1 oo2 aa3 LL xs nn zz10 σ8))
 else (if xin (0 : Int32) 1 = true then (xlet (σ8 aa3 (0 : Int32).toNatClampNeg).toInt64 (fun (zz11 : Int64) => if (lg_cmp zz11 zz7.toInt64) = 0 then (xlet (zz + 4) (fun (zz12 : Int32) => L_law oo1 oo2 aa3 LL xs nn zz12 σ8))
 else (none))) else none))
 else (none))))) else none))) else none)
 else (if (zz1 &&& 31) = 1 then (xbI (F_X5_clearText oo1 σ) (fun (zz15 : Int32) (σ14 : xS) => xbI (F_X6_clearText oo2 σ14) (fun (zz17 : Int32) (σ16 : xS) => if zz15 = zz17 then (xlet (zz + 4) (fun (zz18 : Int32) => L_law oo1 oo2 aa3 LL xs nn zz18 σ16))
 else (none))))
 else (if (zz1 &&& 31) = 2 then (xbI (F_X5_errorPosition oo1 σ) (fun (zz21 : Int32) (σ20 : xS) => xbI (F_X6_errorPosition oo2 σ20) (fun (zz23 : Int32) (σ22 : xS) => if zz21 = zz23 then (xlet (zz + 4) (fun (zz24 : Int32) => L_law oo1 oo2 aa3 LL xs nn zz24 σ22))
 else (none))))
 else (if (zz1 &&& 31) = 3 then (xbI (F_L_load oo1 aa3 σ) (fun (zz27 : Int32) (σ26 : xS) => xbI (F_X6_load oo2 σ26) (fun (zz29 : Int32) (σ28 : xS) => xbI (F_X6_thrown oo2 σ28) (fun (zz31 : Int32) (σ30 : xS) => if zz31 = zz27 then (if ¬ zz27 = 0 then (xlet (zz + 4) (fun (zz32 : Int32) => L_law oo1 oo2 aa3 LL xs nn zz32 σ30))
 else (if xin (0 : Int32) 1 = true then (xlet (σ30 aa3 (0 : Int32).toNatClampNeg).toInt64 (fun (zz33 : Int64) => if (lg_cmp zz33 zz29.toInt64) = 0 then (xlet (zz + 4) (fun (zz34 : Int32) => L_law oo1 oo2 aa3 LL xs nn zz34 σ30))
 else (none))) else none))
 else (none)))))
 else (if (zz1 &&& 31) = 4 then (if xin (zz + 1) LL = true then (xlet (xs (zz + 1).toNatClampNeg) (fun (zz36 : Int32) => xbI (F_L_about oo1 zz36 aa3 σ) (fun (zz38 : Int32) (σ37 : xS) => if xin (zz + 1) LL = true then (xlet (xs (zz + 1).toNatClampNeg) (fun (zz39 : Int32) => xbI (F_X6_about oo2 zz39 σ37) (fun (zz41 : Int32) (σ40 : xS) => xbI (F_X6_thrown oo2 σ40) (fun (zz43 : Int32) (σ42 : xS) => if zz43 = zz38 then (if ¬ zz38 = 0 then (xlet (zz + 4) (fun (zz44 : Int32) => L_law oo1 oo2 aa3 LL xs nn zz44 σ42))
 else (if xin (0 : Int32) 1 = true then (xlet (σ42 aa3 (0 : Int32).toNatClampNeg).toInt64 (fun (zz45 : Int64) => if (lg_cmp zz45 zz41.toInt64) = 0 then (xlet (zz + 4) (fun (zz46 : Int32) => L_law oo1 oo2 aa3 LL xs nn zz46 σ42))
 else (none))) else none))
 else (none))))) else none))) else none)
 else (if (zz1 &&& 31) = 5 then (if xin (zz + 1) LL = true then (xlet (xs (zz + 1).toNatClampNeg) (fun (zz48 : Int32) => if xin (zz + 2) LL = true then (xlet (xs (zz + 2).toNatClampNeg) (fun (zz49 : Int32) => xbI (F_L_writer oo1 zz48 zz49 aa3 σ) (fun (zz51 : Int32) (σ50 : xS) => if xin (zz + 1) LL = true then (xlet (xs (zz + 1).toNatClampNeg) (fun (zz52 : Int32) => if xin (zz + 2) LL = true then (xlet (xs (zz + 2).toNatClampNeg) (fun (zz53 : Int32) => xbI (F_X6_writer oo2 zz52 zz53 σ50) (fun (zz55 : Int32) (σ54 : xS) => xbI (F_X6_thrown oo2 σ54) (fun (zz57 : Int32) (σ56 : xS) => if zz57 = zz51 then (if ¬ zz51 = 0 then (xlet (zz + 4) (fun (zz58 : Int32) => L_law oo1 oo2 aa3 LL xs nn zz58 σ56))
 else (if xin (0 : Int32) 1 = true then (xlet (σ56 aa3 (0 : Int32).toNatClampNeg).toInt64 (fun (zz59 : Int64) => if (lg_cmp zz59 zz55.toInt64) = 0 then (xlet (zz + 4) (fun (zz60 : Int32) => L_law oo1 oo2 aa3 LL xs nn zz60 σ56))
 else (none))) else none))
 else (none))))) else none)) else none))) else none)) else none)
 else (if (zz1 &&& 31) = 6 then (if xin (zz + 1) LL = true then (xlet (xs (zz + 1).toNatClampNeg) (fun (zz62 : Int32) => if xin (zz + 2) LL = true then (xlet (xs (zz + 2).toNatClampNeg) (fun (zz63 : Int32) => xbI (F_L_desk oo1 zz62 zz63 aa3 σ) (fun (zz65 : Int32) (σ64 : xS) => if xin (zz + 1) LL = true then (xlet (xs (zz + 1).toNatClampNeg) (fun (zz66 : Int32) => if xin (zz + 2) LL = true then (xlet (xs (zz + 2).toNatClampNeg) (fun (zz67 : Int32) => xbI (F_X6_desk oo2 zz66 zz67 σ64) (fun (zz69 : Int32) (σ68 : xS) => xbI (F_X6_thrown oo2 σ68) (fun (zz71 : Int32) (σ70 : xS) => if zz71 = zz65 then (if ¬ zz65 = 0 then (xlet (zz + 4) (fun (zz72 : Int32) => L_law oo1 oo2 aa3 LL xs nn zz72 σ70))
 else (if xin (0 : Int32) 1 = true then (xlet (σ70 aa3 (0 : Int32).toNatClampNeg).toInt64 (fun (zz73 : Int64) => if (lg_cmp zz73 zz69.toInt64) = 0 then (xlet (zz + 4) (fun (zz74 : Int32) => L_law oo1 oo2 aa3 LL xs nn zz74 σ70))
 else (none))) else none))
 else (none))))) else none)) else none))) else none)) else none)
 else (if (zz1 &&& 31) = 7 then (if xin (zz + 1) LL = true then (xlet (xs (zz + 1).toNatClampNeg) (fun (zz76 : Int32) => if xin (zz + 2) LL = true then (xlet (xs (zz + 2).toNatClampNeg) (fun (zz77 : Int32) => if xin (zz + 3) LL = true then (xlet (xs (zz + 3).toNatClampNeg) (fun (zz78 : Int32) => xbI (F_L_letter oo1 zz76 zz77 zz78 aa3 σ) (fun (zz80 : Int32) (σ79 : xS) => if xin (zz + 1) LL = true then (xlet (xs (zz + 1).toNatClampNeg) (fun (zz81 : Int32) => if xin (zz + 2) LL = true then (xlet (xs (zz + 2).toNatClampNeg) (fun (zz82 : Int32) => if xin (zz + 3) LL = true then (xlet (xs (zz + 3).toNatClampNeg) (fun (zz83 : Int32) => xbI (F_X6_letter oo2 zz81 zz82 zz83 σ79) (fun (zz85 : Int32) (σ84 : xS) => xbI (F_X6_thrown oo2 σ84) (fun (zz87 : Int32) (σ86 : xS) => if zz87 = zz80 then (if ¬ zz80 = 0 then (xlet (zz + 4) (fun (zz88 : Int32) => L_law oo1 oo2 aa3 LL xs nn zz88 σ86))
 else (if xin (0 : Int32) 1 = true then (xlet (σ86 aa3 (0 : Int32).toNatClampNeg).toInt64 (fun (zz89 : Int64) => if (lg_cmp zz89 zz85.toInt64) = 0 then (xlet (zz + 4) (fun (zz90 : Int32) => L_law oo1 oo2 aa3 LL xs nn zz90 σ86))
 else (none))) else none))
 else (none))))) else none)) else none)) else none))) else none)) else none)) else none)
 else (if (zz1 &&& 31) = 8 then (if xin (zz + 1) LL = true then (xlet (xs (zz + 1).toNatClampNeg) (fun (zz92 : Int32) => if xin (zz + 2) LL = true then (xlet (xs (zz + 2).toNatClampNeg) (fun (zz93 : Int32) => xbI (F_L_planned oo1 zz92 zz93 aa3 σ) (fun (zz95 : Int32) (σ94 : xS) => if xin (zz + 1) LL = true then (xlet (xs (zz + 1).toNatClampNeg) (fun (zz96 : Int32) => if xin (zz + 2) LL = true then (xlet (xs (zz + 2).toNatClampNeg) (fun (zz97 : Int32) => xbI (F_X6_planned oo2 zz96 zz97 σ94) (fun (zz99 : Int32) (σ98 : xS) => xbI (F_X6_thrown oo2 σ98) (fun (zz101 : Int32) (σ100 : xS) => if zz101 = zz95 then (if ¬ zz95 = 0 then (xlet (zz + 4) (fun (zz102 : Int32) => L_law oo1 oo2 aa3 LL xs nn zz102 σ100))
 else (if xin (0 : Int32) 1 = true then (xlet (σ100 aa3 (0 : Int32).toNatClampNeg).toInt64 (fun (zz103 : Int64) => if (lg_cmp zz103 zz99.toInt64) = 0 then (xlet (zz + 4) (fun (zz104 : Int32) => L_law oo1 oo2 aa3 LL xs nn zz104 σ100))
 else (none))) else none))
 else (none))))) else none)) else none))) else none)) else none)
 else (if (zz1 &&& 31) = 9 then (if xin (zz + 1) LL = true then (xlet (xs (zz + 1).toNatClampNeg) (fun (zz106 : Int32) => xbI (F_L_setting oo1 zz106 aa3 σ) (fun (zz108 : Int32) (σ107 : xS) => if xin (zz + 1) LL = true then (xlet (xs (zz + 1).toNatClampNeg) (fun (zz109 : Int32) => xbI (F_X6_setting oo2 zz109 σ107) (fun (zz111 : Int32) (σ110 : xS) => xbI (F_X6_thrown oo2 σ110) (fun (zz113 : Int32) (σ112 : xS) => if zz113 = zz108 then (if ¬ zz108 = 0 then (xlet (zz + 4) (fun (zz114 : Int32) => L_law oo1 oo2 aa3 LL xs nn zz114 σ112))
 else (if xin (0 : Int32) 1 = true then (xlet (σ112 aa3 (0 : Int32).toNatClampNeg).toInt64 (fun (zz115 : Int64) => if (lg_cmp zz115 zz111.toInt64) = 0 then (xlet (zz + 4) (fun (zz116 : Int32) => L_law oo1 oo2 aa3 LL xs nn zz116 σ112))
 else (none))) else none))
 else (none))))) else none))) else none)
 else (if (zz1 &&& 31) = 10 then (if xin (zz + 1) LL = true then (xlet (xs (zz + 1).toNatClampNeg) (fun (zz118 : Int32) => xbI (F_L_post oo1 zz118 aa3 σ) (fun (zz120 : Int32) (σ119 : xS) => if xin (zz + 1) LL = true then (xlet (xs (zz + 1).toNatClampNeg) (fun (zz121 : Int32) => xbI (F_X6_post oo2 zz121 σ119) (fun (zz123 : Int32) (σ122 : xS) => xbI (F_X6_thrown oo2 σ122) (fun (zz125 : Int32) (σ124 : xS) => if zz125 = zz120 then (if ¬ zz120 = 0 then (xlet (zz + 4) (fun (zz126 : Int32) => L_law oo1 oo2 aa3 LL xs nn zz126 σ124))
 else (if xin (0 : Int32) 1 = true then (xlet (σ124 aa3 (0 : Int32).toNatClampNeg).toInt64 (fun (zz127 : Int64) => if (lg_cmp zz127 zz123.toInt64) = 0 then (xlet (zz + 4) (fun (zz128 : Int32) => L_law oo1 oo2 aa3 LL xs nn zz128 σ124))
 else (none))) else none))
 else (none))))) else none))) else none)
 else (if (zz1 &&& 31) = 11 then (if xin (zz + 1) LL = true then (xlet (xs (zz + 1).toNatClampNeg) (fun (zz130 : Int32) => if xin (zz + 2) LL = true then (xlet (xs (zz + 2).toNatClampNeg) (fun (zz131 : Int32) => xbI (F_L_write oo1 zz130 zz131 aa3 σ) (fun (zz133 : Int32) (σ132 : xS) => if xin (zz + 1) LL = true then (xlet (xs (zz + 1).toNatClampNeg) (fun (zz134 : Int32) => if xin (zz + 2) LL = true then (xlet (xs (zz + 2).toNatClampNeg) (fun (zz135 : Int32) => xbI (F_X6_write oo2 zz134 zz135 σ132) (fun (zz137 : Int32) (σ136 : xS) => xbI (F_X6_thrown oo2 σ136) (fun (zz139 : Int32) (σ138 : xS) => if zz139 = zz133 then (if ¬ zz133 = 0 then (xlet (zz + 4) (fun (zz140 : Int32) => L_law oo1 oo2 aa3 LL xs nn zz140 σ138))
 else (if xin (0 : Int32) 1 = true then (xlet (σ138 aa3 (0 : Int32).toNatClampNeg).toInt64 (fun (zz141 : Int64) => if (lg_cmp zz141 zz137.toInt64) = 0 then (xlet (zz + 4) (fun (zz142 : Int32) => L_law oo1 oo2 aa3 LL xs nn zz142 σ138))
 else (none))) else none))
 else (none))))) else none)) else none))) else none)) else none)
 else (if (zz1 &&& 31) = 12 then (if xin (zz + 1) LL = true then (xlet (xs (zz + 1).toNatClampNeg) (fun (zz144 : Int32) => if xin (zz + 2) LL = true then (xlet (xs (zz + 2).toNatClampNeg) (fun (zz145 : Int32) => if xin (zz + 3) LL = true then (xlet (xs (zz + 3).toNatClampNeg) (fun (zz146 : Int32) => xbI (F_L_plan oo1 zz144 zz145 zz146 aa3 σ) (fun (zz148 : Int32) (σ147 : xS) => if xin (zz + 1) LL = true then (xlet (xs (zz + 1).toNatClampNeg) (fun (zz149 : Int32) => if xin (zz + 2) LL = true then (xlet (xs (zz + 2).toNatClampNeg) (fun (zz150 : Int32) => if xin (zz + 3) LL = true then (xlet (xs (zz + 3).toNatClampNeg) (fun (zz151 : Int32) => xbI (F_X6_plan oo2 zz149 zz150 zz151 σ147) (fun (zz153 : Int32) (σ152 : xS) => xbI (F_X6_thrown oo2 σ152) (fun (zz155 : Int32) (σ154 : xS) => if zz155 = zz148 then (if ¬ zz148 = 0 then (xlet (zz + 4) (fun (zz156 : Int32) => L_law oo1 oo2 aa3 LL xs nn zz156 σ154))
 else (if xin (0 : Int32) 1 = true then (xlet (σ154 aa3 (0 : Int32).toNatClampNeg).toInt64 (fun (zz157 : Int64) => if (lg_cmp zz157 zz153.toInt64) = 0 then (xlet (zz + 4) (fun (zz158 : Int32) => L_law oo1 oo2 aa3 LL xs nn zz158 σ154))
 else (none))) else none))
 else (none))))) else none)) else none)) else none))) else none)) else none)) else none)
 else (if (zz1 &&& 31) = 13 then (if xin (zz + 1) LL = true then (xlet (xs (zz + 1).toNatClampNeg) (fun (zz160 : Int32) => if xin (zz + 2) LL = true then (xlet (xs (zz + 2).toNatClampNeg) (fun (zz161 : Int32) => xjn (fun (zz162 : Int32) (σ163 : xS) => xbI (F_L_hold oo1 zz160 zz162 aa3 σ163) (fun (zz165 : Int32) (σ164 : xS) => if xin (zz + 1) LL = true then (xlet (xs (zz + 1).toNatClampNeg) (fun (zz166 : Int32) => if xin (zz + 2) LL = true then (xlet (xs (zz + 2).toNatClampNeg) (fun (zz167 : Int32) => xjn (fun (zz168 : Int32) (σ169 : xS) => xbI (F_X6_hold oo2 zz166 zz168 σ169) (fun (zz171 : Int32) (σ170 : xS) => xbI (F_X6_thrown oo2 σ170) (fun (zz173 : Int32) (σ172 : xS) => if zz173 = zz165 then (if ¬ zz165 = 0 then (xlet (zz + 4) (fun (zz174 : Int32) => L_law oo1 oo2 aa3 LL xs nn zz174 σ172))
 else (if xin (0 : Int32) 1 = true then (xlet (σ172 aa3 (0 : Int32).toNatClampNeg).toInt64 (fun (zz175 : Int64) => if (lg_cmp zz175 zz171.toInt64) = 0 then (xlet (zz + 4) (fun (zz176 : Int32) => L_law oo1 oo2 aa3 LL xs nn zz176 σ172))
 else (none))) else none))
 else (none))))
 (fun (KK177 : Int32 → xS → Option (Int32 × xS)) => if zz167 = 0 then (KK177 0 σ164)
 else (KK177 1 σ164)))) else none)) else none))
 (fun (KK179 : Int32 → xS → Option (Int32 × xS)) => if zz161 = 0 then (KK179 0 σ)
 else (KK179 1 σ)))) else none)) else none)
 else (if (zz1 &&& 31) = 14 then (if xin (zz + 1) LL = true then (xlet (xs (zz + 1).toNatClampNeg) (fun (zz182 : Int32) => xbI (F_L_flush oo1 zz182 aa3 σ) (fun (zz184 : Int32) (σ183 : xS) => if xin (zz + 1) LL = true then (xlet (xs (zz + 1).toNatClampNeg) (fun (zz185 : Int32) => xbI (F_X6_flush oo2 zz185 σ183) (fun (zz187 : Int32) (σ186 : xS) => xbI (F_X6_thrown oo2 σ186) (fun (zz189 : Int32) (σ188 : xS) => if zz189 = zz184 then (if ¬ zz184 = 0 then (xlet (zz + 4) (fun (zz190 : Int32) => L_law oo1 oo2 aa3 LL xs nn zz190 σ188))
 else (if xin (0 : Int32) 1 = true then (xlet (σ188 aa3 (0 : Int32).toNatClampNeg).toInt64 (fun (zz191 : Int64) => if (lg_cmp zz191 zz187.toInt64) = 0 then (xlet (zz + 4) (fun (zz192 : Int32) => L_law oo1 oo2 aa3 LL xs nn zz192 σ188))
 else (none))) else none))
 else (none))))) else none))) else none)
 else (if (zz1 &&& 31) = 15 then (if xin (zz + 1) LL = true then (xlet (xs (zz + 1).toNatClampNeg) (fun (zz194 : Int32) => xbI (F_L_ticks oo1 zz194 aa3 σ) (fun (zz196 : Int32) (σ195 : xS) => if xin (zz + 1) LL = true then (xlet (xs (zz + 1).toNatClampNeg) (fun (zz197 : Int32) => xbI (F_X6_ticks oo2 zz197 σ195) (fun (zz199 : Int32) (σ198 : xS) => xbI (F_X6_thrown oo2 σ198) (fun (zz201 : Int32) (σ200 : xS) => if zz201 = zz196 then (if ¬ zz196 = 0 then (xlet (zz + 4) (fun (zz202 : Int32) => L_law oo1 oo2 aa3 LL xs nn zz202 σ200))
 else (if xin (0 : Int32) 1 = true then (xlet (σ200 aa3 (0 : Int32).toNatClampNeg).toInt64 (fun (zz203 : Int64) => if (lg_cmp zz203 zz199.toInt64) = 0 then (xlet (zz + 4) (fun (zz204 : Int32) => L_law oo1 oo2 aa3 LL xs nn zz204 σ200))
 else (none))) else none))
 else (none))))) else none))) else none)
 else (if (zz1 &&& 31) = 16 then (if xin (zz + 1) LL = true then (xlet (xs (zz + 1).toNatClampNeg) (fun (zz206 : Int32) => if xin (zz + 2) LL = true then (xlet (xs (zz + 2).toNatClampNeg) (fun (zz207 : Int32) => xbI (F_L_set oo1 zz206 zz207 aa3 σ) (fun (zz209 : Int32) (σ208 : xS) => if xin (zz + 1) LL = true then (xlet (xs (zz + 1).toNatClampNeg) (fun (zz210 : Int32) => if xin (zz + 2) LL = true then (xlet (xs (zz + 2).toNatClampNeg) (fun (zz211 : Int32) => xbI (F_X6_set oo2 zz210 zz211 σ208) (fun (zz213 : Int32) (σ212 : xS) => xbI (F_X6_thrown oo2 σ212) (fun (zz215 : Int32) (σ214 : xS) => if zz215 = zz209 then (if ¬ zz209 = 0 then (xlet (zz + 4) (fun (zz216 : Int32) => L_law oo1 oo2 aa3 LL xs nn zz216 σ214))
 else (if xin (0 : Int32) 1 = true then (xlet (σ214 aa3 (0 : Int32).toNatClampNeg).toInt64 (fun (zz217 : Int64) => if (lg_cmp zz217 zz213.toInt64) = 0 then (xlet (zz + 4) (fun (zz218 : Int32) => L_law oo1 oo2 aa3 LL xs nn zz218 σ214))
 else (none))) else none))
 else (none))))) else none)) else none))) else none)) else none)
 else (if (zz1 &&& 31) = 17 then (xbI (F_L_undo oo1 aa3 σ) (fun (zz221 : Int32) (σ220 : xS) => xbI (F_X6_undo oo2 σ220) (fun (zz223 : Int32) (σ222 : xS) => xbI (F_X6_thrown oo2 σ222) (fun (zz225 : Int32) (σ224 : xS) => if zz225 = zz221 then (if ¬ zz221 = 0 then (xlet (zz + 4) (fun (zz226 : Int32) => L_law oo1 oo2 aa3 LL xs nn zz226 σ224))
 else (if xin (0 : Int32) 1 = true then (xlet (σ224 aa3 (0 : Int32).toNatClampNeg).toInt64 (fun (zz227 : Int64) => if (lg_cmp zz227 zz223.toInt64) = 0 then (xlet (zz + 4) (fun (zz228 : Int32) => L_law oo1 oo2 aa3 LL xs nn zz228 σ224))
 else (none))) else none))
 else (none)))))
 else (if (zz1 &&& 31) = 18 then (if xin (zz + 1) LL = true then (xlet (xs (zz + 1).toNatClampNeg) (fun (zz230 : Int32) => xbI (F_L_doneIn oo1 zz230 aa3 σ) (fun (zz232 : Int32) (σ231 : xS) => if xin (zz + 1) LL = true then (xlet (xs (zz + 1).toNatClampNeg) (fun (zz233 : Int32) => xbI (F_X6_doneIn oo2 zz233 σ231) (fun (zz235 : Int32) (σ234 : xS) => xbI (F_X6_thrown oo2 σ234) (fun (zz237 : Int32) (σ236 : xS) => if zz237 = zz232 then (if ¬ zz232 = 0 then (xlet (zz + 4) (fun (zz238 : Int32) => L_law oo1 oo2 aa3 LL xs nn zz238 σ236))
 else (if xin (0 : Int32) 1 = true then (xlet (σ236 aa3 (0 : Int32).toNatClampNeg).toInt64 (fun (zz239 : Int64) => if (lg_cmp zz239 zz235.toInt64) = 0 then (xlet (zz + 4) (fun (zz240 : Int32) => L_law oo1 oo2 aa3 LL xs nn zz240 σ236))
 else (none))) else none))
 else (none))))) else none))) else none)
 else (if (zz1 &&& 31) = 19 then (if xin (zz + 1) LL = true then (xlet (xs (zz + 1).toNatClampNeg) (fun (zz242 : Int32) => if xin (zz + 2) LL = true then (xlet (xs (zz + 2).toNatClampNeg) (fun (zz243 : Int32) => xbI (F_L_thereIn oo1 zz242 zz243 aa3 σ) (fun (zz245 : Int32) (σ244 : xS) => if xin (zz + 1) LL = true then (xlet (xs (zz + 1).toNatClampNeg) (fun (zz246 : Int32) => if xin (zz + 2) LL = true then (xlet (xs (zz + 2).toNatClampNeg) (fun (zz247 : Int32) => xbI (F_X6_thereIn oo2 zz246 zz247 σ244) (fun (zz249 : Int32) (σ248 : xS) => xbI (F_X6_thrown oo2 σ248) (fun (zz251 : Int32) (σ250 : xS) => if zz251 = zz245 then (if ¬ zz245 = 0 then (xlet (zz + 4) (fun (zz252 : Int32) => L_law oo1 oo2 aa3 LL xs nn zz252 σ250))
 else (if xin (0 : Int32) 1 = true then (xlet (σ250 aa3 (0 : Int32).toNatClampNeg).toInt64 (fun (zz253 : Int64) => if (lg_cmp zz253 zz249.toInt64) = 0 then (xlet (zz + 4) (fun (zz254 : Int32) => L_law oo1 oo2 aa3 LL xs nn zz254 σ250))
 else (none))) else none))
 else (none))))) else none)) else none))) else none)) else none)
 else (if (zz1 &&& 31) = 20 then (if xin (zz + 1) LL = true then (xlet (xs (zz + 1).toNatClampNeg) (fun (zz256 : Int32) => if xin (zz + 2) LL = true then (xlet (xs (zz + 2).toNatClampNeg) (fun (zz257 : Int32) => xbI (F_L_ifHeld oo1 zz256 zz257 aa3 σ) (fun (zz259 : Int32) (σ258 : xS) => if xin (zz + 1) LL = true then (xlet (xs (zz + 1).toNatClampNeg) (fun (zz260 : Int32) => if xin (zz + 2) LL = true then (xlet (xs (zz + 2).toNatClampNeg) (fun (zz261 : Int32) => xbI (F_X6_ifHeld oo2 zz260 zz261 σ258) (fun (zz263 : Int32) (σ262 : xS) => xbI (F_X6_thrown oo2 σ262) (fun (zz265 : Int32) (σ264 : xS) => if zz265 = zz259 then (if ¬ zz259 = 0 then (xlet (zz + 4) (fun (zz266 : Int32) => L_law oo1 oo2 aa3 LL xs nn zz266 σ264))
 else (if xin (0 : Int32) 1 = true then (xlet (σ264 aa3 (0 : Int32).toNatClampNeg).toInt64 (fun (zz267 : Int64) => if (lg_cmp zz267 zz263.toInt64) = 0 then (xlet (zz + 4) (fun (zz268 : Int32) => L_law oo1 oo2 aa3 LL xs nn zz268 σ264))
 else (none))) else none))
 else (none))))) else none)) else none))) else none)) else none)
 else (if (zz1 &&& 31) = 21 then (if xin (zz + 1) LL = true then (xlet (xs (zz + 1).toNatClampNeg) (fun (zz270 : Int32) => if xin (zz + 2) LL = true then (xlet (xs (zz + 2).toNatClampNeg) (fun (zz271 : Int32) => xbI (F_L_best oo1 zz270 zz271 aa3 σ) (fun (zz273 : Int32) (σ272 : xS) => if xin (zz + 1) LL = true then (xlet (xs (zz + 1).toNatClampNeg) (fun (zz274 : Int32) => if xin (zz + 2) LL = true then (xlet (xs (zz + 2).toNatClampNeg) (fun (zz275 : Int32) => xbI (F_X6_best oo2 zz274 zz275 σ272) (fun (zz277 : Int32) (σ276 : xS) => xbI (F_X6_thrown oo2 σ276) (fun (zz279 : Int32) (σ278 : xS) => if zz279 = zz273 then (if ¬ zz273 = 0 then (xlet (zz + 4) (fun (zz280 : Int32) => L_law oo1 oo2 aa3 LL xs nn zz280 σ278))
 else (if xin (0 : Int32) 1 = true then (xlet (σ278 aa3 (0 : Int32).toNatClampNeg).toInt64 (fun (zz281 : Int64) => if (lg_cmp zz281 zz277.toInt64) = 0 then (xlet (zz + 4) (fun (zz282 : Int32) => L_law oo1 oo2 aa3 LL xs nn zz282 σ278))
 else (none))) else none))
 else (none))))) else none)) else none))) else none)) else none)
 else (if (zz1 &&& 31) = 22 then (if xin (zz + 1) LL = true then (xlet (xs (zz + 1).toNatClampNeg) (fun (zz284 : Int32) => if xin (zz + 2) LL = true then (xlet (xs (zz + 2).toNatClampNeg) (fun (zz285 : Int32) => if xin (zz + 3) LL = true then (xlet (xs (zz + 3).toNatClampNeg) (fun (zz286 : Int32) => xbI (F_L_runScript oo1 zz284 ((zz285.toInt64 <<< ((32 : Int32).toInt64 &&& 63)) ||| (zz286.toInt64 &&& 4294967295)) aa3 σ) (fun (zz288 : Int32) (σ287 : xS) => if xin (zz + 1) LL = true then (xlet (xs (zz + 1).toNatClampNeg) (fun (zz289 : Int32) => if xin (zz + 2) LL = true then (xlet (xs (zz + 2).toNatClampNeg) (fun (zz290 : Int32) => if xin (zz + 3) LL = true then (xlet (xs (zz + 3).toNatClampNeg) (fun (zz291 : Int32) => xbI (F_X6_runScript oo2 zz289 ((zz290.toInt64 <<< ((32 : Int32).toInt64 &&& 63)) ||| (zz291.toInt64 &&& 4294967295)) σ287) (fun (zz293 : Int32) (σ292 : xS) => xbI (F_X6_thrown oo2 σ292) (fun (zz295 : Int32) (σ294 : xS) => if zz295 = zz288 then (if ¬ zz288 = 0 then (xlet (zz + 4) (fun (zz296 : Int32) => L_law oo1 oo2 aa3 LL xs nn zz296 σ294))
 else (if xin (0 : Int32) 1 = true then (xlet (σ294 aa3 (0 : Int32).toNatClampNeg).toInt64 (fun (zz297 : Int64) => if (lg_cmp zz297 zz293.toInt64) = 0 then (xlet (zz + 4) (fun (zz298 : Int32) => L_law oo1 oo2 aa3 LL xs nn zz298 σ294))
 else (none))) else none))
 else (none))))) else none)) else none)) else none))) else none)) else none)) else none)
 else (if (zz1 &&& 31) = 23 then (if xin (zz + 1) LL = true then (xlet (xs (zz + 1).toNatClampNeg) (fun (zz300 : Int32) => if xin (zz + 2) LL = true then (xlet (xs (zz + 2).toNatClampNeg) (fun (zz301 : Int32) => if xin (zz + 3) LL = true then (xlet (xs (zz + 3).toNatClampNeg) (fun (zz302 : Int32) => xbI (F_L_simulate oo1 ((zz300.toInt64 <<< ((32 : Int32).toInt64 &&& 63)) ||| (zz301.toInt64 &&& 4294967295)) zz302 aa3 σ) (fun (zz304 : Int32) (σ303 : xS) => if xin (zz + 1) LL = true then (xlet (xs (zz + 1).toNatClampNeg) (fun (zz305 : Int32) => if xin (zz + 2) LL = true then (xlet (xs (zz + 2).toNatClampNeg) (fun (zz306 : Int32) => if xin (zz + 3) LL = true then (xlet (xs (zz + 3).toNatClampNeg) (fun (zz307 : Int32) => xbI (F_X6_simulate oo2 ((zz305.toInt64 <<< ((32 : Int32).toInt64 &&& 63)) ||| (zz306.toInt64 &&& 4294967295)) zz307 σ303) (fun (zz309 : Int32) (σ308 : xS) => xbI (F_X6_thrown oo2 σ308) (fun (zz311 : Int32) (σ310 : xS) => if zz311 = zz304 then (if ¬ zz304 = 0 then (xlet (zz + 4) (fun (zz312 : Int32) => L_law oo1 oo2 aa3 LL xs nn zz312 σ310))
 else (if xin (0 : Int32) 1 = true then (xlet (σ310 aa3 (0 : Int32).toNatClampNeg).toInt64 (fun (zz313 : Int64) => if (lg_cmp zz313 zz309.toInt64) = 0 then (xlet (zz + 4) (fun (zz314 : Int32) => L_law oo1 oo2 aa3 LL xs nn zz314 σ310))
 else (none))) else none))
 else (none))))) else none)) else none)) else none))) else none)) else none)) else none)
 else (if (zz1 &&& 31) = 24 then (if xin (zz + 1) LL = true then (xlet (xs (zz + 1).toNatClampNeg) (fun (zz316 : Int32) => xbI (F_L_save oo1 zz316 aa3 σ) (fun (zz318 : Int32) (σ317 : xS) => if xin (zz + 1) LL = true then (xlet (xs (zz + 1).toNatClampNeg) (fun (zz319 : Int32) => xbI (F_X6_save oo2 zz319 σ317) (fun (zz321 : Int32) (σ320 : xS) => xbI (F_X6_thrown oo2 σ320) (fun (zz323 : Int32) (σ322 : xS) => if zz323 = zz318 then (if ¬ zz318 = 0 then (xlet (zz + 4) (fun (zz324 : Int32) => L_law oo1 oo2 aa3 LL xs nn zz324 σ322))
 else (if xin (0 : Int32) 1 = true then (xlet (σ322 aa3 (0 : Int32).toNatClampNeg).toInt64 (fun (zz325 : Int64) => if (lg_cmp zz325 zz321.toInt64) = 0 then (xlet (zz + 4) (fun (zz326 : Int32) => L_law oo1 oo2 aa3 LL xs nn zz326 σ322))
 else (none))) else none))
 else (none))))) else none))) else none)
 else (if (zz1 &&& 31) = 25 then (if xin (zz + 1) LL = true then (xlet (xs (zz + 1).toNatClampNeg) (fun (zz328 : Int32) => xbI (F_L_restore oo1 zz328 aa3 σ) (fun (zz330 : Int32) (σ329 : xS) => if xin (zz + 1) LL = true then (xlet (xs (zz + 1).toNatClampNeg) (fun (zz331 : Int32) => xbI (F_X6_restore oo2 zz331 σ329) (fun (zz333 : Int32) (σ332 : xS) => xbI (F_X6_thrown oo2 σ332) (fun (zz335 : Int32) (σ334 : xS) => if zz335 = zz330 then (if ¬ zz330 = 0 then (xlet (zz + 4) (fun (zz336 : Int32) => L_law oo1 oo2 aa3 LL xs nn zz336 σ334))
 else (if xin (0 : Int32) 1 = true then (xlet (σ334 aa3 (0 : Int32).toNatClampNeg).toInt64 (fun (zz337 : Int64) => if (lg_cmp zz337 zz333.toInt64) = 0 then (xlet (zz + 4) (fun (zz338 : Int32) => L_law oo1 oo2 aa3 LL xs nn zz338 σ334))
 else (none))) else none))
 else (none))))) else none))) else none)
 else (xlet (zz + 4) (fun (zz340 : Int32) => L_law oo1 oo2 aa3 LL xs nn zz340 σ))))))))))))))))))))))))))))) else none)
set_option maxHeartbeats 40000000 in
set_option maxRecDepth 100000 in
theorem c_law (Γ : xG) {D : va_G} {ad : Nat → Nat} {N : Nat} {Sh : xSh} {c0 : Cond} {rm : Room} (hst : Γ.2.1.stackTraces = false) (hI : ∀ i j, i < N → j < N → ad i = ad j → i = j) (hnL : Γ.2.2.2.2.2.2.2.2.2.2.1 = 7) (hrm : rm = room_1) (X : xC Γ cL_law (c0 :: wG) RL (some .boolean) rm D ad N) (bb LL : Nat) (xs : Nat → Int32) (hSC : xSC Γ bb LL xs) (hEnd : xEnd Γ bb) (oo1 : Nat) (hh1 : xIs5 D ad N Sh oo1) (oo2 : Nat) (hh2 : xIs6 D ad N Sh oo2) (aa3 : Nat) (hh3 : xHas N Sh aa3 (shJ D 1)) :
  ∀ (nn : Nat) (zz : Int32) (σ : xS) (kk0 nn0 : Nat), kk0 + 4 * nn ≤ 600000 → nn0 + 24 * nn ≤ 7000000 → xM Γ D ad N Sh (xQL Γ) kk0 nn0 (L_law oo1 oo2 aa3 LL xs nn zz σ) σ 23 [(0, .ref bb), (1, .ref (ad oo1)), (2, .ref (ad oo2)), (3, .ref (ad aa3)), (4, .int zz)] [] := by
  subst hrm
  intro nn
  induction nn with
  | zero => intro zz σ kk0 nn0 _ _; exact xM_none
  | succ nn ihh =>
    intro zz σ kk0 nn0 hb1 hb2
    rw [L_law]
    refine xr_iload (pc := 23) X (i := 4) 4 rfl dL_law_23 ?_
    refine xr_aload_n (pc := 25) X (i := 0) 0 rfl rfl dL_law_25 ?_
    refine xr_slen (pc := 26) X hSC dL_law_26 ?_
    refine xr_iconst (pc := 27) X dL_law_27 (v := 4) (by decide) ?_
    refine xr_isub (pc := 28) X dL_law_28 ?_
    refine xr_icmp_gt (pc := 29) X 1768 (by decide) dL_law_29 (fun _ => ?_) (fun _ => ?_)
    · refine xr_iconst (pc := 1768) X dL_law_1768 (v := 1) (by decide) ?_
      exact xr_lawret X hEnd (by omega) (by omega) dL_law_1769
    refine xr_aload_n (pc := 32) X (i := 0) 0 rfl rfl dL_law_32 ?_
    refine xr_iload (pc := 33) X (i := 4) 4 rfl dL_law_33 ?_
    refine xr_sld (pc := 35) X hSC dL_law_35 (fun zz1 => ?_)
    refine xr_bipush (pc := 36) X dL_law_36 (v := 31) (by decide) ?_
    refine xr_iand (pc := 38) X dL_law_38 ?_
    refine x_if (fun hcc13 => ?_) (fun hcc13 => ?_)
    · refine xr_tin (off := 117) (pc := 39) X 156 dL_law_39 (by rw [hcc13]; decide) (by rw [hcc13]; decide) (by rw [hcc13]; rfl) (by decide) ?_
      refine xr_aload_n (pc := 156) X (i := 1) 1 rfl rfl dL_law_156 ?_
      refine xr_aload_n (pc := 157) X (i := 0) 0 rfl rfl dL_law_157 ?_
      refine xr_iload (pc := 158) X (i := 4) 4 rfl dL_law_158 ?_
      refine xr_iconst (pc := 160) X dL_law_160 (v := 1) (by decide) ?_
      refine xr_iadd (pc := 161) X dL_law_161 ?_
      refine xr_sld (pc := 162) X hSC dL_law_162 (fun zz2 => ?_)
      refine xr_aload_n (pc := 163) X (i := 3) 3 rfl rfl dL_law_163 ?_
      refine xr_callSWI (na := 3) (pc := 164) X [.ref (ad oo1), .int zz2, .ref (ad aa3)] (c_L_append Γ.2.1 hI hst oo1 hh1 zz2 aa3 hh3 σ) (wG_SW wm_6_15 wm_6_12 wm_6_13 wm_6_14) rfl rfl rfl (by decide +kernel) ⟨Nat.le_of_ble_eq_true rfl, Nat.le_of_ble_eq_true rfl⟩ rfl rfl (Nat.le_of_ble_eq_true rfl) ⟨(show _ ≤ 601024 by omega), (show _ ≤ 7293034 by omega)⟩ dL_law_164 (fun zz4 σ3 => ?_)
      refine xr_istore (pc := 167) X (i := 5) [1, 2, 3, 4, 5, 0] (Nat.le_of_ble_eq_true rfl) hnL rfl dL_law_167 ?_
      refine xr_aload_n (pc := 169) X (i := 2) 2 rfl rfl dL_law_169 ?_
      refine xr_aload_n (pc := 170) X (i := 0) 0 rfl rfl dL_law_170 ?_
      refine xr_iload (pc := 171) X (i := 4) 4 rfl dL_law_171 ?_
      refine xr_iconst (pc := 173) X dL_law_173 (v := 1) (by decide) ?_
      refine xr_iadd (pc := 174) X dL_law_174 ?_
      refine xr_sld (pc := 175) X hSC dL_law_175 (fun zz5 => ?_)
      refine xr_callVI (na := 1) (pc := 176) X (oo2) [.int zz5] _ (c_X6_append Γ.2.1 hI oo2 hh2 zz5 σ3) (wG_V wm_7_20 wm_7_17 wm_7_18 wm_7_19 wm_1_5) rfl rfl rfl (by decide +kernel) ⟨Nat.le_of_ble_eq_true rfl, Nat.le_of_ble_eq_true rfl⟩ hh2.1.1 hh2.1.2 rfl (T := TX6) (C := RX6) rfl rfl rfl (Nat.le_of_ble_eq_true rfl) ⟨(show _ ≤ 601024 by omega), (show _ ≤ 7293034 by omega)⟩ dL_law_176 (fun zz7 σ6 => ?_)
      refine xr_istore (pc := 179) X (i := 6) [1, 2, 3, 4, 5, 6, 0] (Nat.le_of_ble_eq_true rfl) hnL rfl dL_law_179 ?_
      refine xr_aload_n (pc := 181) X (i := 2) 2 rfl rfl dL_law_181 ?_
      refine xr_callVI (na := 0) (pc := 182) X (oo2) [] _ (c_X6_thrown Γ.2.1 hI oo2 hh2 σ6) (wG_V wm_8_10 wm_8_7 wm_8_8 wm_8_9 wm_1_5) rfl rfl rfl (by decide +kernel) ⟨Nat.le_of_ble_eq_true rfl, Nat.le_of_ble_eq_true rfl⟩ hh2.1.1 hh2.1.2 rfl (T := TX6) (C := RX6) rfl rfl rfl (Nat.le_of_ble_eq_true rfl) ⟨(show _ ≤ 601024 by omega), (show _ ≤ 7293034 by omega)⟩ dL_law_182 (fun zz9 σ8 => ?_)
      refine xr_iload (pc := 185) X (i := 5) 5 rfl dL_law_185 ?_
      refine xr_icmp_eq (pc := 187) X 192 (by decide) dL_law_187 (fun _ => ?_) (fun _ => ?_)
      · refine xr_iload (pc := 192) X (i := 5) 5 rfl dL_law_192 ?_
        refine xr_if_ne (pc := 194) X 209 (by decide) dL_law_194 (fun _ => ?_) (fun _ => ?_)
        · refine xr_goto (pc := 209) X 1762 (by decide) dL_law_209 ?_
          refine xr_iinc (pc := 1762) X (i := 4) (j := 4) [1, 2, 3, 4, 0, 5, 6] (Nat.le_of_ble_eq_true rfl) hnL rfl rfl (fun zz10 => [(0, .ref bb), (1, .ref (ad oo1)), (2, .ref (ad oo2)), (3, .ref (ad aa3)), (4, .int zz10), (5, .int zz4), (6, .int zz7)]) (fun _ => rfl) dL_law_1762 (fun zz10 => ?_)
          refine xr_goto (pc := 1765) X 23 (by decide) dL_law_1765 ?_
          exact x_sub [0, 1, 2, 3, 4] rfl (ihh _ _ _ _ (by omega) (by omega))
        refine xr_aload_n (pc := 197) X (i := 3) 3 rfl rfl dL_law_197 ?_
        refine xr_iconst (pc := 198) X dL_law_198 (v := 0) (by decide) ?_
        refine xr_lald (pc := 199) X (aa3) 1 hh3.1 hh3.2 dL_law_199 (fun zz11 => ?_)
        refine xr_iload (pc := 200) X (i := 6) 6 rfl dL_law_200 ?_
        refine xr_i2l (pc := 202) X dL_law_202 ?_
        refine xr_lcmp (pc := 203) X dL_law_203 ?_
        refine xr_if_eq (pc := 204) X 209 (by decide) dL_law_204 (fun _ => ?_) (fun _ => ?_)
        · refine xr_goto (pc := 209) X 1762 (by decide) dL_law_209 ?_
          refine xr_iinc (pc := 1762) X (i := 4) (j := 4) [1, 2, 3, 4, 0, 5, 6] (Nat.le_of_ble_eq_true rfl) hnL rfl rfl (fun zz12 => [(0, .ref bb), (1, .ref (ad oo1)), (2, .ref (ad oo2)), (3, .ref (ad aa3)), (4, .int zz12), (5, .int zz4), (6, .int zz7)]) (fun _ => rfl) dL_law_1762 (fun zz12 => ?_)
          refine xr_goto (pc := 1765) X 23 (by decide) dL_law_1765 ?_
          exact x_sub [0, 1, 2, 3, 4] rfl (ihh _ _ _ _ (by omega) (by omega))
        refine xr_iconst (pc := 207) X dL_law_207 (v := 0) (by decide) ?_
        exact xM_none
      refine xr_iconst (pc := 190) X dL_law_190 (v := 0) (by decide) ?_
      exact xM_none
    refine x_if (fun hcc19 => ?_) (fun hcc19 => ?_)
    · refine xr_tin (off := 173) (pc := 39) X 212 dL_law_39 (by rw [hcc19]; decide) (by rw [hcc19]; decide) (by rw [hcc19]; rfl) (by decide) ?_
      refine xr_aload_n (pc := 212) X (i := 1) 1 rfl rfl dL_law_212 ?_
      refine xr_callVI (na := 0) (pc := 213) X (oo1) [] _ (c_X5_clearText Γ.2.1 hI oo1 hh1 σ) (wG_V wm_8_14 wm_8_11 wm_8_12 wm_8_13 wm_1_2) rfl rfl rfl (by decide +kernel) ⟨Nat.le_of_ble_eq_true rfl, Nat.le_of_ble_eq_true rfl⟩ hh1.1.1 hh1.1.2 rfl (T := TX5) (C := RX5) rfl rfl rfl (Nat.le_of_ble_eq_true rfl) ⟨(show _ ≤ 601024 by omega), (show _ ≤ 7293034 by omega)⟩ dL_law_213 (fun zz15 σ14 => ?_)
      refine xr_aload_n (pc := 216) X (i := 2) 2 rfl rfl dL_law_216 ?_
      refine xr_callVI (na := 0) (pc := 217) X (oo2) [] _ (c_X6_clearText Γ.2.1 hI oo2 hh2 σ14) (wG_V wm_8_18 wm_8_15 wm_8_16 wm_8_17 wm_1_5) rfl rfl rfl (by decide +kernel) ⟨Nat.le_of_ble_eq_true rfl, Nat.le_of_ble_eq_true rfl⟩ hh2.1.1 hh2.1.2 rfl (T := TX6) (C := RX6) rfl rfl rfl (Nat.le_of_ble_eq_true rfl) ⟨(show _ ≤ 601024 by omega), (show _ ≤ 7293034 by omega)⟩ dL_law_217 (fun zz17 σ16 => ?_)
      refine xr_icmp_eq (pc := 220) X 1762 (by decide) dL_law_220 (fun _ => ?_) (fun _ => ?_)
      · refine xr_iinc (pc := 1762) X (i := 4) (j := 4) [1, 2, 3, 4, 0] (Nat.le_of_ble_eq_true rfl) hnL rfl rfl (fun zz18 => [(0, .ref bb), (1, .ref (ad oo1)), (2, .ref (ad oo2)), (3, .ref (ad aa3)), (4, .int zz18)]) (fun _ => rfl) dL_law_1762 (fun zz18 => ?_)
        refine xr_goto (pc := 1765) X 23 (by decide) dL_law_1765 ?_
        exact ihh _ _ _ _ (by omega) (by omega)
      refine xr_iconst (pc := 223) X dL_law_223 (v := 0) (by decide) ?_
      exact xM_none
    refine x_if (fun hcc25 => ?_) (fun hcc25 => ?_)
    · refine xr_tin (off := 186) (pc := 39) X 225 dL_law_39 (by rw [hcc25]; decide) (by rw [hcc25]; decide) (by rw [hcc25]; rfl) (by decide) ?_
      refine xr_aload_n (pc := 225) X (i := 1) 1 rfl rfl dL_law_225 ?_
      refine xr_callVI (na := 0) (pc := 226) X (oo1) [] _ (c_X5_errorPosition Γ.2.1 hI oo1 hh1 σ) (wG_V wm_8_22 wm_8_19 wm_8_20 wm_8_21 wm_1_2) rfl rfl rfl (by decide +kernel) ⟨Nat.le_of_ble_eq_true rfl, Nat.le_of_ble_eq_true rfl⟩ hh1.1.1 hh1.1.2 rfl (T := TX5) (C := RX5) rfl rfl rfl (Nat.le_of_ble_eq_true rfl) ⟨(show _ ≤ 601024 by omega), (show _ ≤ 7293034 by omega)⟩ dL_law_226 (fun zz21 σ20 => ?_)
      refine xr_aload_n (pc := 229) X (i := 2) 2 rfl rfl dL_law_229 ?_
      refine xr_callVI (na := 0) (pc := 230) X (oo2) [] _ (c_X6_errorPosition Γ.2.1 hI oo2 hh2 σ20) (wG_V wm_10_14 wm_10_11 wm_10_12 wm_10_13 wm_1_5) rfl rfl rfl (by decide +kernel) ⟨Nat.le_of_ble_eq_true rfl, Nat.le_of_ble_eq_true rfl⟩ hh2.1.1 hh2.1.2 rfl (T := TX6) (C := RX6) rfl rfl rfl (Nat.le_of_ble_eq_true rfl) ⟨(show _ ≤ 601024 by omega), (show _ ≤ 7293034 by omega)⟩ dL_law_230 (fun zz23 σ22 => ?_)
      refine xr_icmp_eq (pc := 233) X 1762 (by decide) dL_law_233 (fun _ => ?_) (fun _ => ?_)
      · refine xr_iinc (pc := 1762) X (i := 4) (j := 4) [1, 2, 3, 4, 0] (Nat.le_of_ble_eq_true rfl) hnL rfl rfl (fun zz24 => [(0, .ref bb), (1, .ref (ad oo1)), (2, .ref (ad oo2)), (3, .ref (ad aa3)), (4, .int zz24)]) (fun _ => rfl) dL_law_1762 (fun zz24 => ?_)
        refine xr_goto (pc := 1765) X 23 (by decide) dL_law_1765 ?_
        exact ihh _ _ _ _ (by omega) (by omega)
      refine xr_iconst (pc := 236) X dL_law_236 (v := 0) (by decide) ?_
      exact xM_none
    refine x_if (fun hcc35 => ?_) (fun hcc35 => ?_)
    · refine xr_tin (off := 199) (pc := 39) X 238 dL_law_39 (by rw [hcc35]; decide) (by rw [hcc35]; decide) (by rw [hcc35]; rfl) (by decide) ?_
      refine xr_aload_n (pc := 238) X (i := 1) 1 rfl rfl dL_law_238 ?_
      refine xr_aload_n (pc := 239) X (i := 3) 3 rfl rfl dL_law_239 ?_
      refine xr_callSWI (na := 2) (pc := 240) X [.ref (ad oo1), .ref (ad aa3)] (c_L_load Γ.2.1 hI hst oo1 hh1 aa3 hh3 σ) (wG_SW wm_13_18 wm_13_16 wm_13_17 wm_6_14) rfl rfl rfl (by decide +kernel) ⟨Nat.le_of_ble_eq_true rfl, Nat.le_of_ble_eq_true rfl⟩ rfl rfl (Nat.le_of_ble_eq_true rfl) ⟨(show _ ≤ 601024 by omega), (show _ ≤ 7293034 by omega)⟩ dL_law_240 (fun zz27 σ26 => ?_)
      refine xr_istore (pc := 243) X (i := 5) [1, 2, 3, 4, 5, 0] (Nat.le_of_ble_eq_true rfl) hnL rfl dL_law_243 ?_
      refine xr_aload_n (pc := 245) X (i := 2) 2 rfl rfl dL_law_245 ?_
      refine xr_callVI (na := 0) (pc := 246) X (oo2) [] _ (c_X6_load Γ.2.1 hI oo2 hh2 σ26) (wG_V wm_18_5 wm_18_2 wm_18_3 wm_18_4 wm_1_5) rfl rfl rfl (by decide +kernel) ⟨Nat.le_of_ble_eq_true rfl, Nat.le_of_ble_eq_true rfl⟩ hh2.1.1 hh2.1.2 rfl (T := TX6) (C := RX6) rfl rfl rfl (Nat.le_of_ble_eq_true rfl) ⟨(show _ ≤ 601024 by omega), (show _ ≤ 7293034 by omega)⟩ dL_law_246 (fun zz29 σ28 => ?_)
      refine xr_istore (pc := 249) X (i := 6) [1, 2, 3, 4, 5, 6, 0] (Nat.le_of_ble_eq_true rfl) hnL rfl dL_law_249 ?_
      refine xr_aload_n (pc := 251) X (i := 2) 2 rfl rfl dL_law_251 ?_
      refine xr_callVI (na := 0) (pc := 252) X (oo2) [] _ (c_X6_thrown Γ.2.1 hI oo2 hh2 σ28) (wG_V wm_8_10 wm_8_7 wm_8_8 wm_8_9 wm_1_5) rfl rfl rfl (by decide +kernel) ⟨Nat.le_of_ble_eq_true rfl, Nat.le_of_ble_eq_true rfl⟩ hh2.1.1 hh2.1.2 rfl (T := TX6) (C := RX6) rfl rfl rfl (Nat.le_of_ble_eq_true rfl) ⟨(show _ ≤ 601024 by omega), (show _ ≤ 7293034 by omega)⟩ dL_law_252 (fun zz31 σ30 => ?_)
      refine xr_iload (pc := 255) X (i := 5) 5 rfl dL_law_255 ?_
      refine xr_icmp_eq (pc := 257) X 262 (by decide) dL_law_257 (fun _ => ?_) (fun _ => ?_)
      · refine xr_iload (pc := 262) X (i := 5) 5 rfl dL_law_262 ?_
        refine xr_if_ne (pc := 264) X 279 (by decide) dL_law_264 (fun _ => ?_) (fun _ => ?_)
        · refine xr_goto (pc := 279) X 1762 (by decide) dL_law_279 ?_
          refine xr_iinc (pc := 1762) X (i := 4) (j := 4) [1, 2, 3, 4, 0, 5, 6] (Nat.le_of_ble_eq_true rfl) hnL rfl rfl (fun zz32 => [(0, .ref bb), (1, .ref (ad oo1)), (2, .ref (ad oo2)), (3, .ref (ad aa3)), (4, .int zz32), (5, .int zz27), (6, .int zz29)]) (fun _ => rfl) dL_law_1762 (fun zz32 => ?_)
          refine xr_goto (pc := 1765) X 23 (by decide) dL_law_1765 ?_
          exact x_sub [0, 1, 2, 3, 4] rfl (ihh _ _ _ _ (by omega) (by omega))
        refine xr_aload_n (pc := 267) X (i := 3) 3 rfl rfl dL_law_267 ?_
        refine xr_iconst (pc := 268) X dL_law_268 (v := 0) (by decide) ?_
        refine xr_lald (pc := 269) X (aa3) 1 hh3.1 hh3.2 dL_law_269 (fun zz33 => ?_)
        refine xr_iload (pc := 270) X (i := 6) 6 rfl dL_law_270 ?_
        refine xr_i2l (pc := 272) X dL_law_272 ?_
        refine xr_lcmp (pc := 273) X dL_law_273 ?_
        refine xr_if_eq (pc := 274) X 279 (by decide) dL_law_274 (fun _ => ?_) (fun _ => ?_)
        · refine xr_goto (pc := 279) X 1762 (by decide) dL_law_279 ?_
          refine xr_iinc (pc := 1762) X (i := 4) (j := 4) [1, 2, 3, 4, 0, 5, 6] (Nat.le_of_ble_eq_true rfl) hnL rfl rfl (fun zz34 => [(0, .ref bb), (1, .ref (ad oo1)), (2, .ref (ad oo2)), (3, .ref (ad aa3)), (4, .int zz34), (5, .int zz27), (6, .int zz29)]) (fun _ => rfl) dL_law_1762 (fun zz34 => ?_)
          refine xr_goto (pc := 1765) X 23 (by decide) dL_law_1765 ?_
          exact x_sub [0, 1, 2, 3, 4] rfl (ihh _ _ _ _ (by omega) (by omega))
        refine xr_iconst (pc := 277) X dL_law_277 (v := 0) (by decide) ?_
        exact xM_none
      refine xr_iconst (pc := 260) X dL_law_260 (v := 0) (by decide) ?_
      exact xM_none
    refine x_if (fun hcc47 => ?_) (fun hcc47 => ?_)
    · refine xr_tin (off := 243) (pc := 39) X 282 dL_law_39 (by rw [hcc47]; decide) (by rw [hcc47]; decide) (by rw [hcc47]; rfl) (by decide) ?_
      refine xr_aload_n (pc := 282) X (i := 1) 1 rfl rfl dL_law_282 ?_
      refine xr_aload_n (pc := 283) X (i := 0) 0 rfl rfl dL_law_283 ?_
      refine xr_iload (pc := 284) X (i := 4) 4 rfl dL_law_284 ?_
      refine xr_iconst (pc := 286) X dL_law_286 (v := 1) (by decide) ?_
      refine xr_iadd (pc := 287) X dL_law_287 ?_
      refine xr_sld (pc := 288) X hSC dL_law_288 (fun zz36 => ?_)
      refine xr_aload_n (pc := 289) X (i := 3) 3 rfl rfl dL_law_289 ?_
      refine xr_callSWI (na := 3) (pc := 290) X [.ref (ad oo1), .int zz36, .ref (ad aa3)] (c_L_about Γ.2.1 hI hst oo1 hh1 zz36 aa3 hh3 σ) (wG_SW wm_18_12 wm_18_10 wm_18_11 wm_6_14) rfl rfl rfl (by decide +kernel) ⟨Nat.le_of_ble_eq_true rfl, Nat.le_of_ble_eq_true rfl⟩ rfl rfl (Nat.le_of_ble_eq_true rfl) ⟨(show _ ≤ 601024 by omega), (show _ ≤ 7293034 by omega)⟩ dL_law_290 (fun zz38 σ37 => ?_)
      refine xr_istore (pc := 293) X (i := 5) [1, 2, 3, 4, 5, 0] (Nat.le_of_ble_eq_true rfl) hnL rfl dL_law_293 ?_
      refine xr_aload_n (pc := 295) X (i := 2) 2 rfl rfl dL_law_295 ?_
      refine xr_aload_n (pc := 296) X (i := 0) 0 rfl rfl dL_law_296 ?_
      refine xr_iload (pc := 297) X (i := 4) 4 rfl dL_law_297 ?_
      refine xr_iconst (pc := 299) X dL_law_299 (v := 1) (by decide) ?_
      refine xr_iadd (pc := 300) X dL_law_300 ?_
      refine xr_sld (pc := 301) X hSC dL_law_301 (fun zz39 => ?_)
      refine xr_callVI (na := 1) (pc := 302) X (oo2) [.int zz39] _ (c_X6_about Γ.2.1 hI oo2 hh2 zz39 σ37) (wG_V wm_19_12 wm_19_9 wm_19_10 wm_19_11 wm_1_5) rfl rfl rfl (by decide +kernel) ⟨Nat.le_of_ble_eq_true rfl, Nat.le_of_ble_eq_true rfl⟩ hh2.1.1 hh2.1.2 rfl (T := TX6) (C := RX6) rfl rfl rfl (Nat.le_of_ble_eq_true rfl) ⟨(show _ ≤ 601024 by omega), (show _ ≤ 7293034 by omega)⟩ dL_law_302 (fun zz41 σ40 => ?_)
      refine xr_istore (pc := 305) X (i := 6) [1, 2, 3, 4, 5, 6, 0] (Nat.le_of_ble_eq_true rfl) hnL rfl dL_law_305 ?_
      refine xr_aload_n (pc := 307) X (i := 2) 2 rfl rfl dL_law_307 ?_
      refine xr_callVI (na := 0) (pc := 308) X (oo2) [] _ (c_X6_thrown Γ.2.1 hI oo2 hh2 σ40) (wG_V wm_8_10 wm_8_7 wm_8_8 wm_8_9 wm_1_5) rfl rfl rfl (by decide +kernel) ⟨Nat.le_of_ble_eq_true rfl, Nat.le_of_ble_eq_true rfl⟩ hh2.1.1 hh2.1.2 rfl (T := TX6) (C := RX6) rfl rfl rfl (Nat.le_of_ble_eq_true rfl) ⟨(show _ ≤ 601024 by omega), (show _ ≤ 7293034 by omega)⟩ dL_law_308 (fun zz43 σ42 => ?_)
      refine xr_iload (pc := 311) X (i := 5) 5 rfl dL_law_311 ?_
      refine xr_icmp_eq (pc := 313) X 318 (by decide) dL_law_313 (fun _ => ?_) (fun _ => ?_)
      · refine xr_iload (pc := 318) X (i := 5) 5 rfl dL_law_318 ?_
        refine xr_if_ne (pc := 320) X 335 (by decide) dL_law_320 (fun _ => ?_) (fun _ => ?_)
        · refine xr_goto (pc := 335) X 1762 (by decide) dL_law_335 ?_
          refine xr_iinc (pc := 1762) X (i := 4) (j := 4) [1, 2, 3, 4, 0, 5, 6] (Nat.le_of_ble_eq_true rfl) hnL rfl rfl (fun zz44 => [(0, .ref bb), (1, .ref (ad oo1)), (2, .ref (ad oo2)), (3, .ref (ad aa3)), (4, .int zz44), (5, .int zz38), (6, .int zz41)]) (fun _ => rfl) dL_law_1762 (fun zz44 => ?_)
          refine xr_goto (pc := 1765) X 23 (by decide) dL_law_1765 ?_
          exact x_sub [0, 1, 2, 3, 4] rfl (ihh _ _ _ _ (by omega) (by omega))
        refine xr_aload_n (pc := 323) X (i := 3) 3 rfl rfl dL_law_323 ?_
        refine xr_iconst (pc := 324) X dL_law_324 (v := 0) (by decide) ?_
        refine xr_lald (pc := 325) X (aa3) 1 hh3.1 hh3.2 dL_law_325 (fun zz45 => ?_)
        refine xr_iload (pc := 326) X (i := 6) 6 rfl dL_law_326 ?_
        refine xr_i2l (pc := 328) X dL_law_328 ?_
        refine xr_lcmp (pc := 329) X dL_law_329 ?_
        refine xr_if_eq (pc := 330) X 335 (by decide) dL_law_330 (fun _ => ?_) (fun _ => ?_)
        · refine xr_goto (pc := 335) X 1762 (by decide) dL_law_335 ?_
          refine xr_iinc (pc := 1762) X (i := 4) (j := 4) [1, 2, 3, 4, 0, 5, 6] (Nat.le_of_ble_eq_true rfl) hnL rfl rfl (fun zz46 => [(0, .ref bb), (1, .ref (ad oo1)), (2, .ref (ad oo2)), (3, .ref (ad aa3)), (4, .int zz46), (5, .int zz38), (6, .int zz41)]) (fun _ => rfl) dL_law_1762 (fun zz46 => ?_)
          refine xr_goto (pc := 1765) X 23 (by decide) dL_law_1765 ?_
          exact x_sub [0, 1, 2, 3, 4] rfl (ihh _ _ _ _ (by omega) (by omega))
        refine xr_iconst (pc := 333) X dL_law_333 (v := 0) (by decide) ?_
        exact xM_none
      refine xr_iconst (pc := 316) X dL_law_316 (v := 0) (by decide) ?_
      exact xM_none
    refine x_if (fun hcc61 => ?_) (fun hcc61 => ?_)
    · refine xr_tin (off := 299) (pc := 39) X 338 dL_law_39 (by rw [hcc61]; decide) (by rw [hcc61]; decide) (by rw [hcc61]; rfl) (by decide) ?_
      refine xr_aload_n (pc := 338) X (i := 1) 1 rfl rfl dL_law_338 ?_
      refine xr_aload_n (pc := 339) X (i := 0) 0 rfl rfl dL_law_339 ?_
      refine xr_iload (pc := 340) X (i := 4) 4 rfl dL_law_340 ?_
      refine xr_iconst (pc := 342) X dL_law_342 (v := 1) (by decide) ?_
      refine xr_iadd (pc := 343) X dL_law_343 ?_
      refine xr_sld (pc := 344) X hSC dL_law_344 (fun zz48 => ?_)
      refine xr_aload_n (pc := 345) X (i := 0) 0 rfl rfl dL_law_345 ?_
      refine xr_iload (pc := 346) X (i := 4) 4 rfl dL_law_346 ?_
      refine xr_iconst (pc := 348) X dL_law_348 (v := 2) (by decide) ?_
      refine xr_iadd (pc := 349) X dL_law_349 ?_
      refine xr_sld (pc := 350) X hSC dL_law_350 (fun zz49 => ?_)
      refine xr_aload_n (pc := 351) X (i := 3) 3 rfl rfl dL_law_351 ?_
      refine xr_callSWI (na := 4) (pc := 352) X [.ref (ad oo1), .int zz48, .int zz49, .ref (ad aa3)] (c_L_writer Γ.2.1 hI hst oo1 hh1 zz48 zz49 aa3 hh3 σ) (wG_SW wm_19_16 wm_19_14 wm_19_15 wm_6_14) rfl rfl rfl (by decide +kernel) ⟨Nat.le_of_ble_eq_true rfl, Nat.le_of_ble_eq_true rfl⟩ rfl rfl (Nat.le_of_ble_eq_true rfl) ⟨(show _ ≤ 601024 by omega), (show _ ≤ 7293034 by omega)⟩ dL_law_352 (fun zz51 σ50 => ?_)
      refine xr_istore (pc := 355) X (i := 5) [1, 2, 3, 4, 5, 0] (Nat.le_of_ble_eq_true rfl) hnL rfl dL_law_355 ?_
      refine xr_aload_n (pc := 357) X (i := 2) 2 rfl rfl dL_law_357 ?_
      refine xr_aload_n (pc := 358) X (i := 0) 0 rfl rfl dL_law_358 ?_
      refine xr_iload (pc := 359) X (i := 4) 4 rfl dL_law_359 ?_
      refine xr_iconst (pc := 361) X dL_law_361 (v := 1) (by decide) ?_
      refine xr_iadd (pc := 362) X dL_law_362 ?_
      refine xr_sld (pc := 363) X hSC dL_law_363 (fun zz52 => ?_)
      refine xr_aload_n (pc := 364) X (i := 0) 0 rfl rfl dL_law_364 ?_
      refine xr_iload (pc := 365) X (i := 4) 4 rfl dL_law_365 ?_
      refine xr_iconst (pc := 367) X dL_law_367 (v := 2) (by decide) ?_
      refine xr_iadd (pc := 368) X dL_law_368 ?_
      refine xr_sld (pc := 369) X hSC dL_law_369 (fun zz53 => ?_)
      refine xr_callVI (na := 2) (pc := 370) X (oo2) [.int zz52, .int zz53] _ (c_X6_writer Γ.2.1 hI oo2 hh2 zz52 zz53 σ50) (wG_V wm_20_3 wm_20_0 wm_20_1 wm_20_2 wm_1_5) rfl rfl rfl (by decide +kernel) ⟨Nat.le_of_ble_eq_true rfl, Nat.le_of_ble_eq_true rfl⟩ hh2.1.1 hh2.1.2 rfl (T := TX6) (C := RX6) rfl rfl rfl (Nat.le_of_ble_eq_true rfl) ⟨(show _ ≤ 601024 by omega), (show _ ≤ 7293034 by omega)⟩ dL_law_370 (fun zz55 σ54 => ?_)
      refine xr_istore (pc := 373) X (i := 6) [1, 2, 3, 4, 5, 6, 0] (Nat.le_of_ble_eq_true rfl) hnL rfl dL_law_373 ?_
      refine xr_aload_n (pc := 375) X (i := 2) 2 rfl rfl dL_law_375 ?_
      refine xr_callVI (na := 0) (pc := 376) X (oo2) [] _ (c_X6_thrown Γ.2.1 hI oo2 hh2 σ54) (wG_V wm_8_10 wm_8_7 wm_8_8 wm_8_9 wm_1_5) rfl rfl rfl (by decide +kernel) ⟨Nat.le_of_ble_eq_true rfl, Nat.le_of_ble_eq_true rfl⟩ hh2.1.1 hh2.1.2 rfl (T := TX6) (C := RX6) rfl rfl rfl (Nat.le_of_ble_eq_true rfl) ⟨(show _ ≤ 601024 by omega), (show _ ≤ 7293034 by omega)⟩ dL_law_376 (fun zz57 σ56 => ?_)
      refine xr_iload (pc := 379) X (i := 5) 5 rfl dL_law_379 ?_
      refine xr_icmp_eq (pc := 381) X 386 (by decide) dL_law_381 (fun _ => ?_) (fun _ => ?_)
      · refine xr_iload (pc := 386) X (i := 5) 5 rfl dL_law_386 ?_
        refine xr_if_ne (pc := 388) X 403 (by decide) dL_law_388 (fun _ => ?_) (fun _ => ?_)
        · refine xr_goto (pc := 403) X 1762 (by decide) dL_law_403 ?_
          refine xr_iinc (pc := 1762) X (i := 4) (j := 4) [1, 2, 3, 4, 0, 5, 6] (Nat.le_of_ble_eq_true rfl) hnL rfl rfl (fun zz58 => [(0, .ref bb), (1, .ref (ad oo1)), (2, .ref (ad oo2)), (3, .ref (ad aa3)), (4, .int zz58), (5, .int zz51), (6, .int zz55)]) (fun _ => rfl) dL_law_1762 (fun zz58 => ?_)
          refine xr_goto (pc := 1765) X 23 (by decide) dL_law_1765 ?_
          exact x_sub [0, 1, 2, 3, 4] rfl (ihh _ _ _ _ (by omega) (by omega))
        refine xr_aload_n (pc := 391) X (i := 3) 3 rfl rfl dL_law_391 ?_
        refine xr_iconst (pc := 392) X dL_law_392 (v := 0) (by decide) ?_
        refine xr_lald (pc := 393) X (aa3) 1 hh3.1 hh3.2 dL_law_393 (fun zz59 => ?_)
        refine xr_iload (pc := 394) X (i := 6) 6 rfl dL_law_394 ?_
        refine xr_i2l (pc := 396) X dL_law_396 ?_
        refine xr_lcmp (pc := 397) X dL_law_397 ?_
        refine xr_if_eq (pc := 398) X 403 (by decide) dL_law_398 (fun _ => ?_) (fun _ => ?_)
        · refine xr_goto (pc := 403) X 1762 (by decide) dL_law_403 ?_
          refine xr_iinc (pc := 1762) X (i := 4) (j := 4) [1, 2, 3, 4, 0, 5, 6] (Nat.le_of_ble_eq_true rfl) hnL rfl rfl (fun zz60 => [(0, .ref bb), (1, .ref (ad oo1)), (2, .ref (ad oo2)), (3, .ref (ad aa3)), (4, .int zz60), (5, .int zz51), (6, .int zz55)]) (fun _ => rfl) dL_law_1762 (fun zz60 => ?_)
          refine xr_goto (pc := 1765) X 23 (by decide) dL_law_1765 ?_
          exact x_sub [0, 1, 2, 3, 4] rfl (ihh _ _ _ _ (by omega) (by omega))
        refine xr_iconst (pc := 401) X dL_law_401 (v := 0) (by decide) ?_
        exact xM_none
      refine xr_iconst (pc := 384) X dL_law_384 (v := 0) (by decide) ?_
      exact xM_none
    refine x_if (fun hcc75 => ?_) (fun hcc75 => ?_)
    · refine xr_tin (off := 367) (pc := 39) X 406 dL_law_39 (by rw [hcc75]; decide) (by rw [hcc75]; decide) (by rw [hcc75]; rfl) (by decide) ?_
      refine xr_aload_n (pc := 406) X (i := 1) 1 rfl rfl dL_law_406 ?_
      refine xr_aload_n (pc := 407) X (i := 0) 0 rfl rfl dL_law_407 ?_
      refine xr_iload (pc := 408) X (i := 4) 4 rfl dL_law_408 ?_
      refine xr_iconst (pc := 410) X dL_law_410 (v := 1) (by decide) ?_
      refine xr_iadd (pc := 411) X dL_law_411 ?_
      refine xr_sld (pc := 412) X hSC dL_law_412 (fun zz62 => ?_)
      refine xr_aload_n (pc := 413) X (i := 0) 0 rfl rfl dL_law_413 ?_
      refine xr_iload (pc := 414) X (i := 4) 4 rfl dL_law_414 ?_
      refine xr_iconst (pc := 416) X dL_law_416 (v := 2) (by decide) ?_
      refine xr_iadd (pc := 417) X dL_law_417 ?_
      refine xr_sld (pc := 418) X hSC dL_law_418 (fun zz63 => ?_)
      refine xr_aload_n (pc := 419) X (i := 3) 3 rfl rfl dL_law_419 ?_
      refine xr_callSWI (na := 4) (pc := 420) X [.ref (ad oo1), .int zz62, .int zz63, .ref (ad aa3)] (c_L_desk Γ.2.1 hI hst oo1 hh1 zz62 zz63 aa3 hh3 σ) (wG_SW wm_20_7 wm_20_5 wm_20_6 wm_6_14) rfl rfl rfl (by decide +kernel) ⟨Nat.le_of_ble_eq_true rfl, Nat.le_of_ble_eq_true rfl⟩ rfl rfl (Nat.le_of_ble_eq_true rfl) ⟨(show _ ≤ 601024 by omega), (show _ ≤ 7293034 by omega)⟩ dL_law_420 (fun zz65 σ64 => ?_)
      refine xr_istore (pc := 423) X (i := 5) [1, 2, 3, 4, 5, 0] (Nat.le_of_ble_eq_true rfl) hnL rfl dL_law_423 ?_
      refine xr_aload_n (pc := 425) X (i := 2) 2 rfl rfl dL_law_425 ?_
      refine xr_aload_n (pc := 426) X (i := 0) 0 rfl rfl dL_law_426 ?_
      refine xr_iload (pc := 427) X (i := 4) 4 rfl dL_law_427 ?_
      refine xr_iconst (pc := 429) X dL_law_429 (v := 1) (by decide) ?_
      refine xr_iadd (pc := 430) X dL_law_430 ?_
      refine xr_sld (pc := 431) X hSC dL_law_431 (fun zz66 => ?_)
      refine xr_aload_n (pc := 432) X (i := 0) 0 rfl rfl dL_law_432 ?_
      refine xr_iload (pc := 433) X (i := 4) 4 rfl dL_law_433 ?_
      refine xr_iconst (pc := 435) X dL_law_435 (v := 2) (by decide) ?_
      refine xr_iadd (pc := 436) X dL_law_436 ?_
      refine xr_sld (pc := 437) X hSC dL_law_437 (fun zz67 => ?_)
      refine xr_callVI (na := 2) (pc := 438) X (oo2) [.int zz66, .int zz67] _ (c_X6_desk Γ.2.1 hI oo2 hh2 zz66 zz67 σ64) (wG_V wm_20_16 wm_20_13 wm_20_14 wm_20_15 wm_1_5) rfl rfl rfl (by decide +kernel) ⟨Nat.le_of_ble_eq_true rfl, Nat.le_of_ble_eq_true rfl⟩ hh2.1.1 hh2.1.2 rfl (T := TX6) (C := RX6) rfl rfl rfl (Nat.le_of_ble_eq_true rfl) ⟨(show _ ≤ 601024 by omega), (show _ ≤ 7293034 by omega)⟩ dL_law_438 (fun zz69 σ68 => ?_)
      refine xr_istore (pc := 441) X (i := 6) [1, 2, 3, 4, 5, 6, 0] (Nat.le_of_ble_eq_true rfl) hnL rfl dL_law_441 ?_
      refine xr_aload_n (pc := 443) X (i := 2) 2 rfl rfl dL_law_443 ?_
      refine xr_callVI (na := 0) (pc := 444) X (oo2) [] _ (c_X6_thrown Γ.2.1 hI oo2 hh2 σ68) (wG_V wm_8_10 wm_8_7 wm_8_8 wm_8_9 wm_1_5) rfl rfl rfl (by decide +kernel) ⟨Nat.le_of_ble_eq_true rfl, Nat.le_of_ble_eq_true rfl⟩ hh2.1.1 hh2.1.2 rfl (T := TX6) (C := RX6) rfl rfl rfl (Nat.le_of_ble_eq_true rfl) ⟨(show _ ≤ 601024 by omega), (show _ ≤ 7293034 by omega)⟩ dL_law_444 (fun zz71 σ70 => ?_)
      refine xr_iload (pc := 447) X (i := 5) 5 rfl dL_law_447 ?_
      refine xr_icmp_eq (pc := 449) X 454 (by decide) dL_law_449 (fun _ => ?_) (fun _ => ?_)
      · refine xr_iload (pc := 454) X (i := 5) 5 rfl dL_law_454 ?_
        refine xr_if_ne (pc := 456) X 471 (by decide) dL_law_456 (fun _ => ?_) (fun _ => ?_)
        · refine xr_goto (pc := 471) X 1762 (by decide) dL_law_471 ?_
          refine xr_iinc (pc := 1762) X (i := 4) (j := 4) [1, 2, 3, 4, 0, 5, 6] (Nat.le_of_ble_eq_true rfl) hnL rfl rfl (fun zz72 => [(0, .ref bb), (1, .ref (ad oo1)), (2, .ref (ad oo2)), (3, .ref (ad aa3)), (4, .int zz72), (5, .int zz65), (6, .int zz69)]) (fun _ => rfl) dL_law_1762 (fun zz72 => ?_)
          refine xr_goto (pc := 1765) X 23 (by decide) dL_law_1765 ?_
          exact x_sub [0, 1, 2, 3, 4] rfl (ihh _ _ _ _ (by omega) (by omega))
        refine xr_aload_n (pc := 459) X (i := 3) 3 rfl rfl dL_law_459 ?_
        refine xr_iconst (pc := 460) X dL_law_460 (v := 0) (by decide) ?_
        refine xr_lald (pc := 461) X (aa3) 1 hh3.1 hh3.2 dL_law_461 (fun zz73 => ?_)
        refine xr_iload (pc := 462) X (i := 6) 6 rfl dL_law_462 ?_
        refine xr_i2l (pc := 464) X dL_law_464 ?_
        refine xr_lcmp (pc := 465) X dL_law_465 ?_
        refine xr_if_eq (pc := 466) X 471 (by decide) dL_law_466 (fun _ => ?_) (fun _ => ?_)
        · refine xr_goto (pc := 471) X 1762 (by decide) dL_law_471 ?_
          refine xr_iinc (pc := 1762) X (i := 4) (j := 4) [1, 2, 3, 4, 0, 5, 6] (Nat.le_of_ble_eq_true rfl) hnL rfl rfl (fun zz74 => [(0, .ref bb), (1, .ref (ad oo1)), (2, .ref (ad oo2)), (3, .ref (ad aa3)), (4, .int zz74), (5, .int zz65), (6, .int zz69)]) (fun _ => rfl) dL_law_1762 (fun zz74 => ?_)
          refine xr_goto (pc := 1765) X 23 (by decide) dL_law_1765 ?_
          exact x_sub [0, 1, 2, 3, 4] rfl (ihh _ _ _ _ (by omega) (by omega))
        refine xr_iconst (pc := 469) X dL_law_469 (v := 0) (by decide) ?_
        exact xM_none
      refine xr_iconst (pc := 452) X dL_law_452 (v := 0) (by decide) ?_
      exact xM_none
    refine x_if (fun hcc91 => ?_) (fun hcc91 => ?_)
    · refine xr_tin (off := 435) (pc := 39) X 474 dL_law_39 (by rw [hcc91]; decide) (by rw [hcc91]; decide) (by rw [hcc91]; rfl) (by decide) ?_
      refine xr_aload_n (pc := 474) X (i := 1) 1 rfl rfl dL_law_474 ?_
      refine xr_aload_n (pc := 475) X (i := 0) 0 rfl rfl dL_law_475 ?_
      refine xr_iload (pc := 476) X (i := 4) 4 rfl dL_law_476 ?_
      refine xr_iconst (pc := 478) X dL_law_478 (v := 1) (by decide) ?_
      refine xr_iadd (pc := 479) X dL_law_479 ?_
      refine xr_sld (pc := 480) X hSC dL_law_480 (fun zz76 => ?_)
      refine xr_aload_n (pc := 481) X (i := 0) 0 rfl rfl dL_law_481 ?_
      refine xr_iload (pc := 482) X (i := 4) 4 rfl dL_law_482 ?_
      refine xr_iconst (pc := 484) X dL_law_484 (v := 2) (by decide) ?_
      refine xr_iadd (pc := 485) X dL_law_485 ?_
      refine xr_sld (pc := 486) X hSC dL_law_486 (fun zz77 => ?_)
      refine xr_aload_n (pc := 487) X (i := 0) 0 rfl rfl dL_law_487 ?_
      refine xr_iload (pc := 488) X (i := 4) 4 rfl dL_law_488 ?_
      refine xr_iconst (pc := 490) X dL_law_490 (v := 3) (by decide) ?_
      refine xr_iadd (pc := 491) X dL_law_491 ?_
      refine xr_sld (pc := 492) X hSC dL_law_492 (fun zz78 => ?_)
      refine xr_aload_n (pc := 493) X (i := 3) 3 rfl rfl dL_law_493 ?_
      refine xr_callSWI (na := 5) (pc := 494) X [.ref (ad oo1), .int zz76, .int zz77, .int zz78, .ref (ad aa3)] (c_L_letter Γ.2.1 hI hst oo1 hh1 zz76 zz77 zz78 aa3 hh3 σ) (wG_SW wm_20_20 wm_20_18 wm_20_19 wm_6_14) rfl rfl rfl (by decide +kernel) ⟨Nat.le_of_ble_eq_true rfl, Nat.le_of_ble_eq_true rfl⟩ rfl rfl (Nat.le_of_ble_eq_true rfl) ⟨(show _ ≤ 601024 by omega), (show _ ≤ 7293034 by omega)⟩ dL_law_494 (fun zz80 σ79 => ?_)
      refine xr_istore (pc := 497) X (i := 5) [1, 2, 3, 4, 5, 0] (Nat.le_of_ble_eq_true rfl) hnL rfl dL_law_497 ?_
      refine xr_aload_n (pc := 499) X (i := 2) 2 rfl rfl dL_law_499 ?_
      refine xr_aload_n (pc := 500) X (i := 0) 0 rfl rfl dL_law_500 ?_
      refine xr_iload (pc := 501) X (i := 4) 4 rfl dL_law_501 ?_
      refine xr_iconst (pc := 503) X dL_law_503 (v := 1) (by decide) ?_
      refine xr_iadd (pc := 504) X dL_law_504 ?_
      refine xr_sld (pc := 505) X hSC dL_law_505 (fun zz81 => ?_)
      refine xr_aload_n (pc := 506) X (i := 0) 0 rfl rfl dL_law_506 ?_
      refine xr_iload (pc := 507) X (i := 4) 4 rfl dL_law_507 ?_
      refine xr_iconst (pc := 509) X dL_law_509 (v := 2) (by decide) ?_
      refine xr_iadd (pc := 510) X dL_law_510 ?_
      refine xr_sld (pc := 511) X hSC dL_law_511 (fun zz82 => ?_)
      refine xr_aload_n (pc := 512) X (i := 0) 0 rfl rfl dL_law_512 ?_
      refine xr_iload (pc := 513) X (i := 4) 4 rfl dL_law_513 ?_
      refine xr_iconst (pc := 515) X dL_law_515 (v := 3) (by decide) ?_
      refine xr_iadd (pc := 516) X dL_law_516 ?_
      refine xr_sld (pc := 517) X hSC dL_law_517 (fun zz83 => ?_)
      refine xr_callVI (na := 3) (pc := 518) X (oo2) [.int zz81, .int zz82, .int zz83] _ (c_X6_letter Γ.2.1 hI oo2 hh2 zz81 zz82 zz83 σ79) (wG_V wm_21_6 wm_21_3 wm_21_4 wm_21_5 wm_1_5) rfl rfl rfl (by decide +kernel) ⟨Nat.le_of_ble_eq_true rfl, Nat.le_of_ble_eq_true rfl⟩ hh2.1.1 hh2.1.2 rfl (T := TX6) (C := RX6) rfl rfl rfl (Nat.le_of_ble_eq_true rfl) ⟨(show _ ≤ 601024 by omega), (show _ ≤ 7293034 by omega)⟩ dL_law_518 (fun zz85 σ84 => ?_)
      refine xr_istore (pc := 521) X (i := 6) [1, 2, 3, 4, 5, 6, 0] (Nat.le_of_ble_eq_true rfl) hnL rfl dL_law_521 ?_
      refine xr_aload_n (pc := 523) X (i := 2) 2 rfl rfl dL_law_523 ?_
      refine xr_callVI (na := 0) (pc := 524) X (oo2) [] _ (c_X6_thrown Γ.2.1 hI oo2 hh2 σ84) (wG_V wm_8_10 wm_8_7 wm_8_8 wm_8_9 wm_1_5) rfl rfl rfl (by decide +kernel) ⟨Nat.le_of_ble_eq_true rfl, Nat.le_of_ble_eq_true rfl⟩ hh2.1.1 hh2.1.2 rfl (T := TX6) (C := RX6) rfl rfl rfl (Nat.le_of_ble_eq_true rfl) ⟨(show _ ≤ 601024 by omega), (show _ ≤ 7293034 by omega)⟩ dL_law_524 (fun zz87 σ86 => ?_)
      refine xr_iload (pc := 527) X (i := 5) 5 rfl dL_law_527 ?_
      refine xr_icmp_eq (pc := 529) X 534 (by decide) dL_law_529 (fun _ => ?_) (fun _ => ?_)
      · refine xr_iload (pc := 534) X (i := 5) 5 rfl dL_law_534 ?_
        refine xr_if_ne (pc := 536) X 551 (by decide) dL_law_536 (fun _ => ?_) (fun _ => ?_)
        · refine xr_goto (pc := 551) X 1762 (by decide) dL_law_551 ?_
          refine xr_iinc (pc := 1762) X (i := 4) (j := 4) [1, 2, 3, 4, 0, 5, 6] (Nat.le_of_ble_eq_true rfl) hnL rfl rfl (fun zz88 => [(0, .ref bb), (1, .ref (ad oo1)), (2, .ref (ad oo2)), (3, .ref (ad aa3)), (4, .int zz88), (5, .int zz80), (6, .int zz85)]) (fun _ => rfl) dL_law_1762 (fun zz88 => ?_)
          refine xr_goto (pc := 1765) X 23 (by decide) dL_law_1765 ?_
          exact x_sub [0, 1, 2, 3, 4] rfl (ihh _ _ _ _ (by omega) (by omega))
        refine xr_aload_n (pc := 539) X (i := 3) 3 rfl rfl dL_law_539 ?_
        refine xr_iconst (pc := 540) X dL_law_540 (v := 0) (by decide) ?_
        refine xr_lald (pc := 541) X (aa3) 1 hh3.1 hh3.2 dL_law_541 (fun zz89 => ?_)
        refine xr_iload (pc := 542) X (i := 6) 6 rfl dL_law_542 ?_
        refine xr_i2l (pc := 544) X dL_law_544 ?_
        refine xr_lcmp (pc := 545) X dL_law_545 ?_
        refine xr_if_eq (pc := 546) X 551 (by decide) dL_law_546 (fun _ => ?_) (fun _ => ?_)
        · refine xr_goto (pc := 551) X 1762 (by decide) dL_law_551 ?_
          refine xr_iinc (pc := 1762) X (i := 4) (j := 4) [1, 2, 3, 4, 0, 5, 6] (Nat.le_of_ble_eq_true rfl) hnL rfl rfl (fun zz90 => [(0, .ref bb), (1, .ref (ad oo1)), (2, .ref (ad oo2)), (3, .ref (ad aa3)), (4, .int zz90), (5, .int zz80), (6, .int zz85)]) (fun _ => rfl) dL_law_1762 (fun zz90 => ?_)
          refine xr_goto (pc := 1765) X 23 (by decide) dL_law_1765 ?_
          exact x_sub [0, 1, 2, 3, 4] rfl (ihh _ _ _ _ (by omega) (by omega))
        refine xr_iconst (pc := 549) X dL_law_549 (v := 0) (by decide) ?_
        exact xM_none
      refine xr_iconst (pc := 532) X dL_law_532 (v := 0) (by decide) ?_
      exact xM_none
    refine x_if (fun hcc105 => ?_) (fun hcc105 => ?_)
    · refine xr_tin (off := 515) (pc := 39) X 554 dL_law_39 (by rw [hcc105]; decide) (by rw [hcc105]; decide) (by rw [hcc105]; rfl) (by decide) ?_
      refine xr_aload_n (pc := 554) X (i := 1) 1 rfl rfl dL_law_554 ?_
      refine xr_aload_n (pc := 555) X (i := 0) 0 rfl rfl dL_law_555 ?_
      refine xr_iload (pc := 556) X (i := 4) 4 rfl dL_law_556 ?_
      refine xr_iconst (pc := 558) X dL_law_558 (v := 1) (by decide) ?_
      refine xr_iadd (pc := 559) X dL_law_559 ?_
      refine xr_sld (pc := 560) X hSC dL_law_560 (fun zz92 => ?_)
      refine xr_aload_n (pc := 561) X (i := 0) 0 rfl rfl dL_law_561 ?_
      refine xr_iload (pc := 562) X (i := 4) 4 rfl dL_law_562 ?_
      refine xr_iconst (pc := 564) X dL_law_564 (v := 2) (by decide) ?_
      refine xr_iadd (pc := 565) X dL_law_565 ?_
      refine xr_sld (pc := 566) X hSC dL_law_566 (fun zz93 => ?_)
      refine xr_aload_n (pc := 567) X (i := 3) 3 rfl rfl dL_law_567 ?_
      refine xr_callSWI (na := 4) (pc := 568) X [.ref (ad oo1), .int zz92, .int zz93, .ref (ad aa3)] (c_L_planned Γ.2.1 hI hst oo1 hh1 zz92 zz93 aa3 hh3 σ) (wG_SW wm_21_9 wm_21_7 wm_21_8 wm_6_14) rfl rfl rfl (by decide +kernel) ⟨Nat.le_of_ble_eq_true rfl, Nat.le_of_ble_eq_true rfl⟩ rfl rfl (Nat.le_of_ble_eq_true rfl) ⟨(show _ ≤ 601024 by omega), (show _ ≤ 7293034 by omega)⟩ dL_law_568 (fun zz95 σ94 => ?_)
      refine xr_istore (pc := 571) X (i := 5) [1, 2, 3, 4, 5, 0] (Nat.le_of_ble_eq_true rfl) hnL rfl dL_law_571 ?_
      refine xr_aload_n (pc := 573) X (i := 2) 2 rfl rfl dL_law_573 ?_
      refine xr_aload_n (pc := 574) X (i := 0) 0 rfl rfl dL_law_574 ?_
      refine xr_iload (pc := 575) X (i := 4) 4 rfl dL_law_575 ?_
      refine xr_iconst (pc := 577) X dL_law_577 (v := 1) (by decide) ?_
      refine xr_iadd (pc := 578) X dL_law_578 ?_
      refine xr_sld (pc := 579) X hSC dL_law_579 (fun zz96 => ?_)
      refine xr_aload_n (pc := 580) X (i := 0) 0 rfl rfl dL_law_580 ?_
      refine xr_iload (pc := 581) X (i := 4) 4 rfl dL_law_581 ?_
      refine xr_iconst (pc := 583) X dL_law_583 (v := 2) (by decide) ?_
      refine xr_iadd (pc := 584) X dL_law_584 ?_
      refine xr_sld (pc := 585) X hSC dL_law_585 (fun zz97 => ?_)
      refine xr_callVI (na := 2) (pc := 586) X (oo2) [.int zz96, .int zz97] _ (c_X6_planned Γ.2.1 hI oo2 hh2 zz96 zz97 σ94) (wG_V wm_21_18 wm_21_15 wm_21_16 wm_21_17 wm_1_5) rfl rfl rfl (by decide +kernel) ⟨Nat.le_of_ble_eq_true rfl, Nat.le_of_ble_eq_true rfl⟩ hh2.1.1 hh2.1.2 rfl (T := TX6) (C := RX6) rfl rfl rfl (Nat.le_of_ble_eq_true rfl) ⟨(show _ ≤ 601024 by omega), (show _ ≤ 7293034 by omega)⟩ dL_law_586 (fun zz99 σ98 => ?_)
      refine xr_istore (pc := 589) X (i := 6) [1, 2, 3, 4, 5, 6, 0] (Nat.le_of_ble_eq_true rfl) hnL rfl dL_law_589 ?_
      refine xr_aload_n (pc := 591) X (i := 2) 2 rfl rfl dL_law_591 ?_
      refine xr_callVI (na := 0) (pc := 592) X (oo2) [] _ (c_X6_thrown Γ.2.1 hI oo2 hh2 σ98) (wG_V wm_8_10 wm_8_7 wm_8_8 wm_8_9 wm_1_5) rfl rfl rfl (by decide +kernel) ⟨Nat.le_of_ble_eq_true rfl, Nat.le_of_ble_eq_true rfl⟩ hh2.1.1 hh2.1.2 rfl (T := TX6) (C := RX6) rfl rfl rfl (Nat.le_of_ble_eq_true rfl) ⟨(show _ ≤ 601024 by omega), (show _ ≤ 7293034 by omega)⟩ dL_law_592 (fun zz101 σ100 => ?_)
      refine xr_iload (pc := 595) X (i := 5) 5 rfl dL_law_595 ?_
      refine xr_icmp_eq (pc := 597) X 602 (by decide) dL_law_597 (fun _ => ?_) (fun _ => ?_)
      · refine xr_iload (pc := 602) X (i := 5) 5 rfl dL_law_602 ?_
        refine xr_if_ne (pc := 604) X 619 (by decide) dL_law_604 (fun _ => ?_) (fun _ => ?_)
        · refine xr_goto (pc := 619) X 1762 (by decide) dL_law_619 ?_
          refine xr_iinc (pc := 1762) X (i := 4) (j := 4) [1, 2, 3, 4, 0, 5, 6] (Nat.le_of_ble_eq_true rfl) hnL rfl rfl (fun zz102 => [(0, .ref bb), (1, .ref (ad oo1)), (2, .ref (ad oo2)), (3, .ref (ad aa3)), (4, .int zz102), (5, .int zz95), (6, .int zz99)]) (fun _ => rfl) dL_law_1762 (fun zz102 => ?_)
          refine xr_goto (pc := 1765) X 23 (by decide) dL_law_1765 ?_
          exact x_sub [0, 1, 2, 3, 4] rfl (ihh _ _ _ _ (by omega) (by omega))
        refine xr_aload_n (pc := 607) X (i := 3) 3 rfl rfl dL_law_607 ?_
        refine xr_iconst (pc := 608) X dL_law_608 (v := 0) (by decide) ?_
        refine xr_lald (pc := 609) X (aa3) 1 hh3.1 hh3.2 dL_law_609 (fun zz103 => ?_)
        refine xr_iload (pc := 610) X (i := 6) 6 rfl dL_law_610 ?_
        refine xr_i2l (pc := 612) X dL_law_612 ?_
        refine xr_lcmp (pc := 613) X dL_law_613 ?_
        refine xr_if_eq (pc := 614) X 619 (by decide) dL_law_614 (fun _ => ?_) (fun _ => ?_)
        · refine xr_goto (pc := 619) X 1762 (by decide) dL_law_619 ?_
          refine xr_iinc (pc := 1762) X (i := 4) (j := 4) [1, 2, 3, 4, 0, 5, 6] (Nat.le_of_ble_eq_true rfl) hnL rfl rfl (fun zz104 => [(0, .ref bb), (1, .ref (ad oo1)), (2, .ref (ad oo2)), (3, .ref (ad aa3)), (4, .int zz104), (5, .int zz95), (6, .int zz99)]) (fun _ => rfl) dL_law_1762 (fun zz104 => ?_)
          refine xr_goto (pc := 1765) X 23 (by decide) dL_law_1765 ?_
          exact x_sub [0, 1, 2, 3, 4] rfl (ihh _ _ _ _ (by omega) (by omega))
        refine xr_iconst (pc := 617) X dL_law_617 (v := 0) (by decide) ?_
        exact xM_none
      refine xr_iconst (pc := 600) X dL_law_600 (v := 0) (by decide) ?_
      exact xM_none
    refine x_if (fun hcc117 => ?_) (fun hcc117 => ?_)
    · refine xr_tin (off := 583) (pc := 39) X 622 dL_law_39 (by rw [hcc117]; decide) (by rw [hcc117]; decide) (by rw [hcc117]; rfl) (by decide) ?_
      refine xr_aload_n (pc := 622) X (i := 1) 1 rfl rfl dL_law_622 ?_
      refine xr_aload_n (pc := 623) X (i := 0) 0 rfl rfl dL_law_623 ?_
      refine xr_iload (pc := 624) X (i := 4) 4 rfl dL_law_624 ?_
      refine xr_iconst (pc := 626) X dL_law_626 (v := 1) (by decide) ?_
      refine xr_iadd (pc := 627) X dL_law_627 ?_
      refine xr_sld (pc := 628) X hSC dL_law_628 (fun zz106 => ?_)
      refine xr_aload_n (pc := 629) X (i := 3) 3 rfl rfl dL_law_629 ?_
      refine xr_callSWI (na := 3) (pc := 630) X [.ref (ad oo1), .int zz106, .ref (ad aa3)] (c_L_setting Γ.2.1 hI hst oo1 hh1 zz106 aa3 hh3 σ) (wG_SW wm_21_22 wm_21_20 wm_21_21 wm_6_14) rfl rfl rfl (by decide +kernel) ⟨Nat.le_of_ble_eq_true rfl, Nat.le_of_ble_eq_true rfl⟩ rfl rfl (Nat.le_of_ble_eq_true rfl) ⟨(show _ ≤ 601024 by omega), (show _ ≤ 7293034 by omega)⟩ dL_law_630 (fun zz108 σ107 => ?_)
      refine xr_istore (pc := 633) X (i := 5) [1, 2, 3, 4, 5, 0] (Nat.le_of_ble_eq_true rfl) hnL rfl dL_law_633 ?_
      refine xr_aload_n (pc := 635) X (i := 2) 2 rfl rfl dL_law_635 ?_
      refine xr_aload_n (pc := 636) X (i := 0) 0 rfl rfl dL_law_636 ?_
      refine xr_iload (pc := 637) X (i := 4) 4 rfl dL_law_637 ?_
      refine xr_iconst (pc := 639) X dL_law_639 (v := 1) (by decide) ?_
      refine xr_iadd (pc := 640) X dL_law_640 ?_
      refine xr_sld (pc := 641) X hSC dL_law_641 (fun zz109 => ?_)
      refine xr_callVI (na := 1) (pc := 642) X (oo2) [.int zz109] _ (c_X6_setting Γ.2.1 hI oo2 hh2 zz109 σ107) (wG_V wm_22_6 wm_22_3 wm_22_4 wm_22_5 wm_1_5) rfl rfl rfl (by decide +kernel) ⟨Nat.le_of_ble_eq_true rfl, Nat.le_of_ble_eq_true rfl⟩ hh2.1.1 hh2.1.2 rfl (T := TX6) (C := RX6) rfl rfl rfl (Nat.le_of_ble_eq_true rfl) ⟨(show _ ≤ 601024 by omega), (show _ ≤ 7293034 by omega)⟩ dL_law_642 (fun zz111 σ110 => ?_)
      refine xr_istore (pc := 645) X (i := 6) [1, 2, 3, 4, 5, 6, 0] (Nat.le_of_ble_eq_true rfl) hnL rfl dL_law_645 ?_
      refine xr_aload_n (pc := 647) X (i := 2) 2 rfl rfl dL_law_647 ?_
      refine xr_callVI (na := 0) (pc := 648) X (oo2) [] _ (c_X6_thrown Γ.2.1 hI oo2 hh2 σ110) (wG_V wm_8_10 wm_8_7 wm_8_8 wm_8_9 wm_1_5) rfl rfl rfl (by decide +kernel) ⟨Nat.le_of_ble_eq_true rfl, Nat.le_of_ble_eq_true rfl⟩ hh2.1.1 hh2.1.2 rfl (T := TX6) (C := RX6) rfl rfl rfl (Nat.le_of_ble_eq_true rfl) ⟨(show _ ≤ 601024 by omega), (show _ ≤ 7293034 by omega)⟩ dL_law_648 (fun zz113 σ112 => ?_)
      refine xr_iload (pc := 651) X (i := 5) 5 rfl dL_law_651 ?_
      refine xr_icmp_eq (pc := 653) X 658 (by decide) dL_law_653 (fun _ => ?_) (fun _ => ?_)
      · refine xr_iload (pc := 658) X (i := 5) 5 rfl dL_law_658 ?_
        refine xr_if_ne (pc := 660) X 675 (by decide) dL_law_660 (fun _ => ?_) (fun _ => ?_)
        · refine xr_goto (pc := 675) X 1762 (by decide) dL_law_675 ?_
          refine xr_iinc (pc := 1762) X (i := 4) (j := 4) [1, 2, 3, 4, 0, 5, 6] (Nat.le_of_ble_eq_true rfl) hnL rfl rfl (fun zz114 => [(0, .ref bb), (1, .ref (ad oo1)), (2, .ref (ad oo2)), (3, .ref (ad aa3)), (4, .int zz114), (5, .int zz108), (6, .int zz111)]) (fun _ => rfl) dL_law_1762 (fun zz114 => ?_)
          refine xr_goto (pc := 1765) X 23 (by decide) dL_law_1765 ?_
          exact x_sub [0, 1, 2, 3, 4] rfl (ihh _ _ _ _ (by omega) (by omega))
        refine xr_aload_n (pc := 663) X (i := 3) 3 rfl rfl dL_law_663 ?_
        refine xr_iconst (pc := 664) X dL_law_664 (v := 0) (by decide) ?_
        refine xr_lald (pc := 665) X (aa3) 1 hh3.1 hh3.2 dL_law_665 (fun zz115 => ?_)
        refine xr_iload (pc := 666) X (i := 6) 6 rfl dL_law_666 ?_
        refine xr_i2l (pc := 668) X dL_law_668 ?_
        refine xr_lcmp (pc := 669) X dL_law_669 ?_
        refine xr_if_eq (pc := 670) X 675 (by decide) dL_law_670 (fun _ => ?_) (fun _ => ?_)
        · refine xr_goto (pc := 675) X 1762 (by decide) dL_law_675 ?_
          refine xr_iinc (pc := 1762) X (i := 4) (j := 4) [1, 2, 3, 4, 0, 5, 6] (Nat.le_of_ble_eq_true rfl) hnL rfl rfl (fun zz116 => [(0, .ref bb), (1, .ref (ad oo1)), (2, .ref (ad oo2)), (3, .ref (ad aa3)), (4, .int zz116), (5, .int zz108), (6, .int zz111)]) (fun _ => rfl) dL_law_1762 (fun zz116 => ?_)
          refine xr_goto (pc := 1765) X 23 (by decide) dL_law_1765 ?_
          exact x_sub [0, 1, 2, 3, 4] rfl (ihh _ _ _ _ (by omega) (by omega))
        refine xr_iconst (pc := 673) X dL_law_673 (v := 0) (by decide) ?_
        exact xM_none
      refine xr_iconst (pc := 656) X dL_law_656 (v := 0) (by decide) ?_
      exact xM_none
    refine x_if (fun hcc129 => ?_) (fun hcc129 => ?_)
    · refine xr_tin (off := 639) (pc := 39) X 678 dL_law_39 (by rw [hcc129]; decide) (by rw [hcc129]; decide) (by rw [hcc129]; rfl) (by decide) ?_
      refine xr_aload_n (pc := 678) X (i := 1) 1 rfl rfl dL_law_678 ?_
      refine xr_aload_n (pc := 679) X (i := 0) 0 rfl rfl dL_law_679 ?_
      refine xr_iload (pc := 680) X (i := 4) 4 rfl dL_law_680 ?_
      refine xr_iconst (pc := 682) X dL_law_682 (v := 1) (by decide) ?_
      refine xr_iadd (pc := 683) X dL_law_683 ?_
      refine xr_sld (pc := 684) X hSC dL_law_684 (fun zz118 => ?_)
      refine xr_aload_n (pc := 685) X (i := 3) 3 rfl rfl dL_law_685 ?_
      refine xr_callSWI (na := 3) (pc := 686) X [.ref (ad oo1), .int zz118, .ref (ad aa3)] (c_L_post Γ.2.1 hI hst oo1 hh1 zz118 aa3 hh3 σ) (wG_SW wm_22_10 wm_22_8 wm_22_9 wm_6_14) rfl rfl rfl (by decide +kernel) ⟨Nat.le_of_ble_eq_true rfl, Nat.le_of_ble_eq_true rfl⟩ rfl rfl (Nat.le_of_ble_eq_true rfl) ⟨(show _ ≤ 601024 by omega), (show _ ≤ 7293034 by omega)⟩ dL_law_686 (fun zz120 σ119 => ?_)
      refine xr_istore (pc := 689) X (i := 5) [1, 2, 3, 4, 5, 0] (Nat.le_of_ble_eq_true rfl) hnL rfl dL_law_689 ?_
      refine xr_aload_n (pc := 691) X (i := 2) 2 rfl rfl dL_law_691 ?_
      refine xr_aload_n (pc := 692) X (i := 0) 0 rfl rfl dL_law_692 ?_
      refine xr_iload (pc := 693) X (i := 4) 4 rfl dL_law_693 ?_
      refine xr_iconst (pc := 695) X dL_law_695 (v := 1) (by decide) ?_
      refine xr_iadd (pc := 696) X dL_law_696 ?_
      refine xr_sld (pc := 697) X hSC dL_law_697 (fun zz121 => ?_)
      refine xr_callVI (na := 1) (pc := 698) X (oo2) [.int zz121] _ (c_X6_post Γ.2.1 hI oo2 hh2 zz121 σ119) (wG_V wm_23_20 wm_23_17 wm_23_18 wm_23_19 wm_1_5) rfl rfl rfl (by decide +kernel) ⟨Nat.le_of_ble_eq_true rfl, Nat.le_of_ble_eq_true rfl⟩ hh2.1.1 hh2.1.2 rfl (T := TX6) (C := RX6) rfl rfl rfl (Nat.le_of_ble_eq_true rfl) ⟨(show _ ≤ 601024 by omega), (show _ ≤ 7293034 by omega)⟩ dL_law_698 (fun zz123 σ122 => ?_)
      refine xr_istore (pc := 701) X (i := 6) [1, 2, 3, 4, 5, 6, 0] (Nat.le_of_ble_eq_true rfl) hnL rfl dL_law_701 ?_
      refine xr_aload_n (pc := 703) X (i := 2) 2 rfl rfl dL_law_703 ?_
      refine xr_callVI (na := 0) (pc := 704) X (oo2) [] _ (c_X6_thrown Γ.2.1 hI oo2 hh2 σ122) (wG_V wm_8_10 wm_8_7 wm_8_8 wm_8_9 wm_1_5) rfl rfl rfl (by decide +kernel) ⟨Nat.le_of_ble_eq_true rfl, Nat.le_of_ble_eq_true rfl⟩ hh2.1.1 hh2.1.2 rfl (T := TX6) (C := RX6) rfl rfl rfl (Nat.le_of_ble_eq_true rfl) ⟨(show _ ≤ 601024 by omega), (show _ ≤ 7293034 by omega)⟩ dL_law_704 (fun zz125 σ124 => ?_)
      refine xr_iload (pc := 707) X (i := 5) 5 rfl dL_law_707 ?_
      refine xr_icmp_eq (pc := 709) X 714 (by decide) dL_law_709 (fun _ => ?_) (fun _ => ?_)
      · refine xr_iload (pc := 714) X (i := 5) 5 rfl dL_law_714 ?_
        refine xr_if_ne (pc := 716) X 731 (by decide) dL_law_716 (fun _ => ?_) (fun _ => ?_)
        · refine xr_goto (pc := 731) X 1762 (by decide) dL_law_731 ?_
          refine xr_iinc (pc := 1762) X (i := 4) (j := 4) [1, 2, 3, 4, 0, 5, 6] (Nat.le_of_ble_eq_true rfl) hnL rfl rfl (fun zz126 => [(0, .ref bb), (1, .ref (ad oo1)), (2, .ref (ad oo2)), (3, .ref (ad aa3)), (4, .int zz126), (5, .int zz120), (6, .int zz123)]) (fun _ => rfl) dL_law_1762 (fun zz126 => ?_)
          refine xr_goto (pc := 1765) X 23 (by decide) dL_law_1765 ?_
          exact x_sub [0, 1, 2, 3, 4] rfl (ihh _ _ _ _ (by omega) (by omega))
        refine xr_aload_n (pc := 719) X (i := 3) 3 rfl rfl dL_law_719 ?_
        refine xr_iconst (pc := 720) X dL_law_720 (v := 0) (by decide) ?_
        refine xr_lald (pc := 721) X (aa3) 1 hh3.1 hh3.2 dL_law_721 (fun zz127 => ?_)
        refine xr_iload (pc := 722) X (i := 6) 6 rfl dL_law_722 ?_
        refine xr_i2l (pc := 724) X dL_law_724 ?_
        refine xr_lcmp (pc := 725) X dL_law_725 ?_
        refine xr_if_eq (pc := 726) X 731 (by decide) dL_law_726 (fun _ => ?_) (fun _ => ?_)
        · refine xr_goto (pc := 731) X 1762 (by decide) dL_law_731 ?_
          refine xr_iinc (pc := 1762) X (i := 4) (j := 4) [1, 2, 3, 4, 0, 5, 6] (Nat.le_of_ble_eq_true rfl) hnL rfl rfl (fun zz128 => [(0, .ref bb), (1, .ref (ad oo1)), (2, .ref (ad oo2)), (3, .ref (ad aa3)), (4, .int zz128), (5, .int zz120), (6, .int zz123)]) (fun _ => rfl) dL_law_1762 (fun zz128 => ?_)
          refine xr_goto (pc := 1765) X 23 (by decide) dL_law_1765 ?_
          exact x_sub [0, 1, 2, 3, 4] rfl (ihh _ _ _ _ (by omega) (by omega))
        refine xr_iconst (pc := 729) X dL_law_729 (v := 0) (by decide) ?_
        exact xM_none
      refine xr_iconst (pc := 712) X dL_law_712 (v := 0) (by decide) ?_
      exact xM_none
    refine x_if (fun hcc143 => ?_) (fun hcc143 => ?_)
    · refine xr_tin (off := 695) (pc := 39) X 734 dL_law_39 (by rw [hcc143]; decide) (by rw [hcc143]; decide) (by rw [hcc143]; rfl) (by decide) ?_
      refine xr_aload_n (pc := 734) X (i := 1) 1 rfl rfl dL_law_734 ?_
      refine xr_aload_n (pc := 735) X (i := 0) 0 rfl rfl dL_law_735 ?_
      refine xr_iload (pc := 736) X (i := 4) 4 rfl dL_law_736 ?_
      refine xr_iconst (pc := 738) X dL_law_738 (v := 1) (by decide) ?_
      refine xr_iadd (pc := 739) X dL_law_739 ?_
      refine xr_sld (pc := 740) X hSC dL_law_740 (fun zz130 => ?_)
      refine xr_aload_n (pc := 741) X (i := 0) 0 rfl rfl dL_law_741 ?_
      refine xr_iload (pc := 742) X (i := 4) 4 rfl dL_law_742 ?_
      refine xr_iconst (pc := 744) X dL_law_744 (v := 2) (by decide) ?_
      refine xr_iadd (pc := 745) X dL_law_745 ?_
      refine xr_sld (pc := 746) X hSC dL_law_746 (fun zz131 => ?_)
      refine xr_aload_n (pc := 747) X (i := 3) 3 rfl rfl dL_law_747 ?_
      refine xr_callSWI (na := 4) (pc := 748) X [.ref (ad oo1), .int zz130, .int zz131, .ref (ad aa3)] (c_L_write Γ.2.1 hI hst oo1 hh1 zz130 zz131 aa3 hh3 σ) (wG_SW wm_24_4 wm_24_2 wm_24_3 wm_6_14) rfl rfl rfl (by decide +kernel) ⟨Nat.le_of_ble_eq_true rfl, Nat.le_of_ble_eq_true rfl⟩ rfl rfl (Nat.le_of_ble_eq_true rfl) ⟨(show _ ≤ 601024 by omega), (show _ ≤ 7293034 by omega)⟩ dL_law_748 (fun zz133 σ132 => ?_)
      refine xr_istore (pc := 751) X (i := 5) [1, 2, 3, 4, 5, 0] (Nat.le_of_ble_eq_true rfl) hnL rfl dL_law_751 ?_
      refine xr_aload_n (pc := 753) X (i := 2) 2 rfl rfl dL_law_753 ?_
      refine xr_aload_n (pc := 754) X (i := 0) 0 rfl rfl dL_law_754 ?_
      refine xr_iload (pc := 755) X (i := 4) 4 rfl dL_law_755 ?_
      refine xr_iconst (pc := 757) X dL_law_757 (v := 1) (by decide) ?_
      refine xr_iadd (pc := 758) X dL_law_758 ?_
      refine xr_sld (pc := 759) X hSC dL_law_759 (fun zz134 => ?_)
      refine xr_aload_n (pc := 760) X (i := 0) 0 rfl rfl dL_law_760 ?_
      refine xr_iload (pc := 761) X (i := 4) 4 rfl dL_law_761 ?_
      refine xr_iconst (pc := 763) X dL_law_763 (v := 2) (by decide) ?_
      refine xr_iadd (pc := 764) X dL_law_764 ?_
      refine xr_sld (pc := 765) X hSC dL_law_765 (fun zz135 => ?_)
      refine xr_callVI (na := 2) (pc := 766) X (oo2) [.int zz134, .int zz135] _ (c_X6_write Γ.2.1 hI oo2 hh2 zz134 zz135 σ132) (wG_V wm_24_12 wm_24_9 wm_24_10 wm_24_11 wm_1_5) rfl rfl rfl (by decide +kernel) ⟨Nat.le_of_ble_eq_true rfl, Nat.le_of_ble_eq_true rfl⟩ hh2.1.1 hh2.1.2 rfl (T := TX6) (C := RX6) rfl rfl rfl (Nat.le_of_ble_eq_true rfl) ⟨(show _ ≤ 601024 by omega), (show _ ≤ 7293034 by omega)⟩ dL_law_766 (fun zz137 σ136 => ?_)
      refine xr_istore (pc := 769) X (i := 6) [1, 2, 3, 4, 5, 6, 0] (Nat.le_of_ble_eq_true rfl) hnL rfl dL_law_769 ?_
      refine xr_aload_n (pc := 771) X (i := 2) 2 rfl rfl dL_law_771 ?_
      refine xr_callVI (na := 0) (pc := 772) X (oo2) [] _ (c_X6_thrown Γ.2.1 hI oo2 hh2 σ136) (wG_V wm_8_10 wm_8_7 wm_8_8 wm_8_9 wm_1_5) rfl rfl rfl (by decide +kernel) ⟨Nat.le_of_ble_eq_true rfl, Nat.le_of_ble_eq_true rfl⟩ hh2.1.1 hh2.1.2 rfl (T := TX6) (C := RX6) rfl rfl rfl (Nat.le_of_ble_eq_true rfl) ⟨(show _ ≤ 601024 by omega), (show _ ≤ 7293034 by omega)⟩ dL_law_772 (fun zz139 σ138 => ?_)
      refine xr_iload (pc := 775) X (i := 5) 5 rfl dL_law_775 ?_
      refine xr_icmp_eq (pc := 777) X 782 (by decide) dL_law_777 (fun _ => ?_) (fun _ => ?_)
      · refine xr_iload (pc := 782) X (i := 5) 5 rfl dL_law_782 ?_
        refine xr_if_ne (pc := 784) X 799 (by decide) dL_law_784 (fun _ => ?_) (fun _ => ?_)
        · refine xr_goto (pc := 799) X 1762 (by decide) dL_law_799 ?_
          refine xr_iinc (pc := 1762) X (i := 4) (j := 4) [1, 2, 3, 4, 0, 5, 6] (Nat.le_of_ble_eq_true rfl) hnL rfl rfl (fun zz140 => [(0, .ref bb), (1, .ref (ad oo1)), (2, .ref (ad oo2)), (3, .ref (ad aa3)), (4, .int zz140), (5, .int zz133), (6, .int zz137)]) (fun _ => rfl) dL_law_1762 (fun zz140 => ?_)
          refine xr_goto (pc := 1765) X 23 (by decide) dL_law_1765 ?_
          exact x_sub [0, 1, 2, 3, 4] rfl (ihh _ _ _ _ (by omega) (by omega))
        refine xr_aload_n (pc := 787) X (i := 3) 3 rfl rfl dL_law_787 ?_
        refine xr_iconst (pc := 788) X dL_law_788 (v := 0) (by decide) ?_
        refine xr_lald (pc := 789) X (aa3) 1 hh3.1 hh3.2 dL_law_789 (fun zz141 => ?_)
        refine xr_iload (pc := 790) X (i := 6) 6 rfl dL_law_790 ?_
        refine xr_i2l (pc := 792) X dL_law_792 ?_
        refine xr_lcmp (pc := 793) X dL_law_793 ?_
        refine xr_if_eq (pc := 794) X 799 (by decide) dL_law_794 (fun _ => ?_) (fun _ => ?_)
        · refine xr_goto (pc := 799) X 1762 (by decide) dL_law_799 ?_
          refine xr_iinc (pc := 1762) X (i := 4) (j := 4) [1, 2, 3, 4, 0, 5, 6] (Nat.le_of_ble_eq_true rfl) hnL rfl rfl (fun zz142 => [(0, .ref bb), (1, .ref (ad oo1)), (2, .ref (ad oo2)), (3, .ref (ad aa3)), (4, .int zz142), (5, .int zz133), (6, .int zz137)]) (fun _ => rfl) dL_law_1762 (fun zz142 => ?_)
          refine xr_goto (pc := 1765) X 23 (by decide) dL_law_1765 ?_
          exact x_sub [0, 1, 2, 3, 4] rfl (ihh _ _ _ _ (by omega) (by omega))
        refine xr_iconst (pc := 797) X dL_law_797 (v := 0) (by decide) ?_
        exact xM_none
      refine xr_iconst (pc := 780) X dL_law_780 (v := 0) (by decide) ?_
      exact xM_none
    refine x_if (fun hcc159 => ?_) (fun hcc159 => ?_)
    · refine xr_tin (off := 763) (pc := 39) X 802 dL_law_39 (by rw [hcc159]; decide) (by rw [hcc159]; decide) (by rw [hcc159]; rfl) (by decide) ?_
      refine xr_aload_n (pc := 802) X (i := 1) 1 rfl rfl dL_law_802 ?_
      refine xr_aload_n (pc := 803) X (i := 0) 0 rfl rfl dL_law_803 ?_
      refine xr_iload (pc := 804) X (i := 4) 4 rfl dL_law_804 ?_
      refine xr_iconst (pc := 806) X dL_law_806 (v := 1) (by decide) ?_
      refine xr_iadd (pc := 807) X dL_law_807 ?_
      refine xr_sld (pc := 808) X hSC dL_law_808 (fun zz144 => ?_)
      refine xr_aload_n (pc := 809) X (i := 0) 0 rfl rfl dL_law_809 ?_
      refine xr_iload (pc := 810) X (i := 4) 4 rfl dL_law_810 ?_
      refine xr_iconst (pc := 812) X dL_law_812 (v := 2) (by decide) ?_
      refine xr_iadd (pc := 813) X dL_law_813 ?_
      refine xr_sld (pc := 814) X hSC dL_law_814 (fun zz145 => ?_)
      refine xr_aload_n (pc := 815) X (i := 0) 0 rfl rfl dL_law_815 ?_
      refine xr_iload (pc := 816) X (i := 4) 4 rfl dL_law_816 ?_
      refine xr_iconst (pc := 818) X dL_law_818 (v := 3) (by decide) ?_
      refine xr_iadd (pc := 819) X dL_law_819 ?_
      refine xr_sld (pc := 820) X hSC dL_law_820 (fun zz146 => ?_)
      refine xr_aload_n (pc := 821) X (i := 3) 3 rfl rfl dL_law_821 ?_
      refine xr_callSWI (na := 5) (pc := 822) X [.ref (ad oo1), .int zz144, .int zz145, .int zz146, .ref (ad aa3)] (c_L_plan Γ.2.1 hI hst oo1 hh1 zz144 zz145 zz146 aa3 hh3 σ) (wG_SW wm_24_19 wm_24_17 wm_24_18 wm_6_14) rfl rfl rfl (by decide +kernel) ⟨Nat.le_of_ble_eq_true rfl, Nat.le_of_ble_eq_true rfl⟩ rfl rfl (Nat.le_of_ble_eq_true rfl) ⟨(show _ ≤ 601024 by omega), (show _ ≤ 7293034 by omega)⟩ dL_law_822 (fun zz148 σ147 => ?_)
      refine xr_istore (pc := 825) X (i := 5) [1, 2, 3, 4, 5, 0] (Nat.le_of_ble_eq_true rfl) hnL rfl dL_law_825 ?_
      refine xr_aload_n (pc := 827) X (i := 2) 2 rfl rfl dL_law_827 ?_
      refine xr_aload_n (pc := 828) X (i := 0) 0 rfl rfl dL_law_828 ?_
      refine xr_iload (pc := 829) X (i := 4) 4 rfl dL_law_829 ?_
      refine xr_iconst (pc := 831) X dL_law_831 (v := 1) (by decide) ?_
      refine xr_iadd (pc := 832) X dL_law_832 ?_
      refine xr_sld (pc := 833) X hSC dL_law_833 (fun zz149 => ?_)
      refine xr_aload_n (pc := 834) X (i := 0) 0 rfl rfl dL_law_834 ?_
      refine xr_iload (pc := 835) X (i := 4) 4 rfl dL_law_835 ?_
      refine xr_iconst (pc := 837) X dL_law_837 (v := 2) (by decide) ?_
      refine xr_iadd (pc := 838) X dL_law_838 ?_
      refine xr_sld (pc := 839) X hSC dL_law_839 (fun zz150 => ?_)
      refine xr_aload_n (pc := 840) X (i := 0) 0 rfl rfl dL_law_840 ?_
      refine xr_iload (pc := 841) X (i := 4) 4 rfl dL_law_841 ?_
      refine xr_iconst (pc := 843) X dL_law_843 (v := 3) (by decide) ?_
      refine xr_iadd (pc := 844) X dL_law_844 ?_
      refine xr_sld (pc := 845) X hSC dL_law_845 (fun zz151 => ?_)
      refine xr_callVI (na := 3) (pc := 846) X (oo2) [.int zz149, .int zz150, .int zz151] _ (c_X6_plan Γ.2.1 hI oo2 hh2 zz149 zz150 zz151 σ147) (wG_V wm_25_3 wm_25_0 wm_25_1 wm_25_2 wm_1_5) rfl rfl rfl (by decide +kernel) ⟨Nat.le_of_ble_eq_true rfl, Nat.le_of_ble_eq_true rfl⟩ hh2.1.1 hh2.1.2 rfl (T := TX6) (C := RX6) rfl rfl rfl (Nat.le_of_ble_eq_true rfl) ⟨(show _ ≤ 601024 by omega), (show _ ≤ 7293034 by omega)⟩ dL_law_846 (fun zz153 σ152 => ?_)
      refine xr_istore (pc := 849) X (i := 6) [1, 2, 3, 4, 5, 6, 0] (Nat.le_of_ble_eq_true rfl) hnL rfl dL_law_849 ?_
      refine xr_aload_n (pc := 851) X (i := 2) 2 rfl rfl dL_law_851 ?_
      refine xr_callVI (na := 0) (pc := 852) X (oo2) [] _ (c_X6_thrown Γ.2.1 hI oo2 hh2 σ152) (wG_V wm_8_10 wm_8_7 wm_8_8 wm_8_9 wm_1_5) rfl rfl rfl (by decide +kernel) ⟨Nat.le_of_ble_eq_true rfl, Nat.le_of_ble_eq_true rfl⟩ hh2.1.1 hh2.1.2 rfl (T := TX6) (C := RX6) rfl rfl rfl (Nat.le_of_ble_eq_true rfl) ⟨(show _ ≤ 601024 by omega), (show _ ≤ 7293034 by omega)⟩ dL_law_852 (fun zz155 σ154 => ?_)
      refine xr_iload (pc := 855) X (i := 5) 5 rfl dL_law_855 ?_
      refine xr_icmp_eq (pc := 857) X 862 (by decide) dL_law_857 (fun _ => ?_) (fun _ => ?_)
      · refine xr_iload (pc := 862) X (i := 5) 5 rfl dL_law_862 ?_
        refine xr_if_ne (pc := 864) X 879 (by decide) dL_law_864 (fun _ => ?_) (fun _ => ?_)
        · refine xr_goto (pc := 879) X 1762 (by decide) dL_law_879 ?_
          refine xr_iinc (pc := 1762) X (i := 4) (j := 4) [1, 2, 3, 4, 0, 5, 6] (Nat.le_of_ble_eq_true rfl) hnL rfl rfl (fun zz156 => [(0, .ref bb), (1, .ref (ad oo1)), (2, .ref (ad oo2)), (3, .ref (ad aa3)), (4, .int zz156), (5, .int zz148), (6, .int zz153)]) (fun _ => rfl) dL_law_1762 (fun zz156 => ?_)
          refine xr_goto (pc := 1765) X 23 (by decide) dL_law_1765 ?_
          exact x_sub [0, 1, 2, 3, 4] rfl (ihh _ _ _ _ (by omega) (by omega))
        refine xr_aload_n (pc := 867) X (i := 3) 3 rfl rfl dL_law_867 ?_
        refine xr_iconst (pc := 868) X dL_law_868 (v := 0) (by decide) ?_
        refine xr_lald (pc := 869) X (aa3) 1 hh3.1 hh3.2 dL_law_869 (fun zz157 => ?_)
        refine xr_iload (pc := 870) X (i := 6) 6 rfl dL_law_870 ?_
        refine xr_i2l (pc := 872) X dL_law_872 ?_
        refine xr_lcmp (pc := 873) X dL_law_873 ?_
        refine xr_if_eq (pc := 874) X 879 (by decide) dL_law_874 (fun _ => ?_) (fun _ => ?_)
        · refine xr_goto (pc := 879) X 1762 (by decide) dL_law_879 ?_
          refine xr_iinc (pc := 1762) X (i := 4) (j := 4) [1, 2, 3, 4, 0, 5, 6] (Nat.le_of_ble_eq_true rfl) hnL rfl rfl (fun zz158 => [(0, .ref bb), (1, .ref (ad oo1)), (2, .ref (ad oo2)), (3, .ref (ad aa3)), (4, .int zz158), (5, .int zz148), (6, .int zz153)]) (fun _ => rfl) dL_law_1762 (fun zz158 => ?_)
          refine xr_goto (pc := 1765) X 23 (by decide) dL_law_1765 ?_
          exact x_sub [0, 1, 2, 3, 4] rfl (ihh _ _ _ _ (by omega) (by omega))
        refine xr_iconst (pc := 877) X dL_law_877 (v := 0) (by decide) ?_
        exact xM_none
      refine xr_iconst (pc := 860) X dL_law_860 (v := 0) (by decide) ?_
      exact xM_none
    refine x_if (fun hcc181 => ?_) (fun hcc181 => ?_)
    · refine xr_tin (off := 843) (pc := 39) X 882 dL_law_39 (by rw [hcc181]; decide) (by rw [hcc181]; decide) (by rw [hcc181]; rfl) (by decide) ?_
      refine xr_aload_n (pc := 882) X (i := 1) 1 rfl rfl dL_law_882 ?_
      refine xr_aload_n (pc := 883) X (i := 0) 0 rfl rfl dL_law_883 ?_
      refine xr_iload (pc := 884) X (i := 4) 4 rfl dL_law_884 ?_
      refine xr_iconst (pc := 886) X dL_law_886 (v := 1) (by decide) ?_
      refine xr_iadd (pc := 887) X dL_law_887 ?_
      refine xr_sld (pc := 888) X hSC dL_law_888 (fun zz160 => ?_)
      refine xr_aload_n (pc := 889) X (i := 0) 0 rfl rfl dL_law_889 ?_
      refine xr_iload (pc := 890) X (i := 4) 4 rfl dL_law_890 ?_
      refine xr_iconst (pc := 892) X dL_law_892 (v := 2) (by decide) ?_
      refine xr_iadd (pc := 893) X dL_law_893 ?_
      refine xr_sld (pc := 894) X hSC dL_law_894 (fun zz161 => ?_)
      refine x_jn (fun (KK179 : Int32 → xS → Option (Int32 × xS)) => ∀ zz162 σ163, xM Γ D ad N Sh (xQL Γ) kk0 nn0 (KK179 zz162 σ163) σ163 903 [(0, .ref bb), (1, .ref (ad oo1)), (2, .ref (ad oo2)), (3, .ref (ad aa3)), (4, .int zz)] [.int zz162, .int zz160, .ref (ad oo1)]) (fun zz162 σ163 => ?_) (fun KK179 hKK180 => ?_)
      · refine xr_aload_n (pc := 903) X (i := 3) 3 rfl rfl dL_law_903 ?_
        refine xr_callSWI (na := 4) (pc := 904) X [.ref (ad oo1), .int zz160, .int zz162, .ref (ad aa3)] (c_L_hold Γ.2.1 hI hst oo1 hh1 zz160 zz162 aa3 hh3 σ163) (wG_SW wm_25_7 wm_25_5 wm_25_6 wm_6_14) rfl rfl rfl (by decide +kernel) ⟨Nat.le_of_ble_eq_true rfl, Nat.le_of_ble_eq_true rfl⟩ rfl rfl (Nat.le_of_ble_eq_true rfl) ⟨(show _ ≤ 601024 by omega), (show _ ≤ 7293034 by omega)⟩ dL_law_904 (fun zz165 σ164 => ?_)
        refine xr_istore (pc := 907) X (i := 5) [1, 2, 3, 4, 5, 0] (Nat.le_of_ble_eq_true rfl) hnL rfl dL_law_907 ?_
        refine xr_aload_n (pc := 909) X (i := 2) 2 rfl rfl dL_law_909 ?_
        refine xr_aload_n (pc := 910) X (i := 0) 0 rfl rfl dL_law_910 ?_
        refine xr_iload (pc := 911) X (i := 4) 4 rfl dL_law_911 ?_
        refine xr_iconst (pc := 913) X dL_law_913 (v := 1) (by decide) ?_
        refine xr_iadd (pc := 914) X dL_law_914 ?_
        refine xr_sld (pc := 915) X hSC dL_law_915 (fun zz166 => ?_)
        refine xr_aload_n (pc := 916) X (i := 0) 0 rfl rfl dL_law_916 ?_
        refine xr_iload (pc := 917) X (i := 4) 4 rfl dL_law_917 ?_
        refine xr_iconst (pc := 919) X dL_law_919 (v := 2) (by decide) ?_
        refine xr_iadd (pc := 920) X dL_law_920 ?_
        refine xr_sld (pc := 921) X hSC dL_law_921 (fun zz167 => ?_)
        refine x_jn (fun (KK177 : Int32 → xS → Option (Int32 × xS)) => ∀ zz168 σ169, xM Γ D ad N Sh (xQL Γ) (kk0 + 1) (nn0 + 6) (KK177 zz168 σ169) σ169 930 [(0, .ref bb), (1, .ref (ad oo1)), (2, .ref (ad oo2)), (3, .ref (ad aa3)), (4, .int zz), (5, .int zz165)] [.int zz168, .int zz166, .ref (ad oo2)]) (fun zz168 σ169 => ?_) (fun KK177 hKK178 => ?_)
        · refine xr_callVI (na := 2) (pc := 930) X (oo2) [.int zz166, .int zz168] _ (c_X6_hold Γ.2.1 hI oo2 hh2 zz166 zz168 σ169) (wG_V wm_25_15 wm_25_12 wm_25_13 wm_25_14 wm_1_5) rfl rfl rfl (by decide +kernel) ⟨Nat.le_of_ble_eq_true rfl, Nat.le_of_ble_eq_true rfl⟩ hh2.1.1 hh2.1.2 rfl (T := TX6) (C := RX6) rfl rfl rfl (Nat.le_of_ble_eq_true rfl) ⟨(show _ ≤ 601024 by omega), (show _ ≤ 7293034 by omega)⟩ dL_law_930 (fun zz171 σ170 => ?_)
          refine xr_istore (pc := 933) X (i := 6) [1, 2, 3, 4, 5, 6, 0] (Nat.le_of_ble_eq_true rfl) hnL rfl dL_law_933 ?_
          refine xr_aload_n (pc := 935) X (i := 2) 2 rfl rfl dL_law_935 ?_
          refine xr_callVI (na := 0) (pc := 936) X (oo2) [] _ (c_X6_thrown Γ.2.1 hI oo2 hh2 σ170) (wG_V wm_8_10 wm_8_7 wm_8_8 wm_8_9 wm_1_5) rfl rfl rfl (by decide +kernel) ⟨Nat.le_of_ble_eq_true rfl, Nat.le_of_ble_eq_true rfl⟩ hh2.1.1 hh2.1.2 rfl (T := TX6) (C := RX6) rfl rfl rfl (Nat.le_of_ble_eq_true rfl) ⟨(show _ ≤ 601024 by omega), (show _ ≤ 7293034 by omega)⟩ dL_law_936 (fun zz173 σ172 => ?_)
          refine xr_iload (pc := 939) X (i := 5) 5 rfl dL_law_939 ?_
          refine xr_icmp_eq (pc := 941) X 946 (by decide) dL_law_941 (fun _ => ?_) (fun _ => ?_)
          · refine xr_iload (pc := 946) X (i := 5) 5 rfl dL_law_946 ?_
            refine xr_if_ne (pc := 948) X 963 (by decide) dL_law_948 (fun _ => ?_) (fun _ => ?_)
            · refine xr_goto (pc := 963) X 1762 (by decide) dL_law_963 ?_
              refine xr_iinc (pc := 1762) X (i := 4) (j := 4) [1, 2, 3, 4, 0, 5, 6] (Nat.le_of_ble_eq_true rfl) hnL rfl rfl (fun zz174 => [(0, .ref bb), (1, .ref (ad oo1)), (2, .ref (ad oo2)), (3, .ref (ad aa3)), (4, .int zz174), (5, .int zz165), (6, .int zz171)]) (fun _ => rfl) dL_law_1762 (fun zz174 => ?_)
              refine xr_goto (pc := 1765) X 23 (by decide) dL_law_1765 ?_
              exact x_sub [0, 1, 2, 3, 4] rfl (ihh _ _ _ _ (by omega) (by omega))
            refine xr_aload_n (pc := 951) X (i := 3) 3 rfl rfl dL_law_951 ?_
            refine xr_iconst (pc := 952) X dL_law_952 (v := 0) (by decide) ?_
            refine xr_lald (pc := 953) X (aa3) 1 hh3.1 hh3.2 dL_law_953 (fun zz175 => ?_)
            refine xr_iload (pc := 954) X (i := 6) 6 rfl dL_law_954 ?_
            refine xr_i2l (pc := 956) X dL_law_956 ?_
            refine xr_lcmp (pc := 957) X dL_law_957 ?_
            refine xr_if_eq (pc := 958) X 963 (by decide) dL_law_958 (fun _ => ?_) (fun _ => ?_)
            · refine xr_goto (pc := 963) X 1762 (by decide) dL_law_963 ?_
              refine xr_iinc (pc := 1762) X (i := 4) (j := 4) [1, 2, 3, 4, 0, 5, 6] (Nat.le_of_ble_eq_true rfl) hnL rfl rfl (fun zz176 => [(0, .ref bb), (1, .ref (ad oo1)), (2, .ref (ad oo2)), (3, .ref (ad aa3)), (4, .int zz176), (5, .int zz165), (6, .int zz171)]) (fun _ => rfl) dL_law_1762 (fun zz176 => ?_)
              refine xr_goto (pc := 1765) X 23 (by decide) dL_law_1765 ?_
              exact x_sub [0, 1, 2, 3, 4] rfl (ihh _ _ _ _ (by omega) (by omega))
            refine xr_iconst (pc := 961) X dL_law_961 (v := 0) (by decide) ?_
            exact xM_none
          refine xr_iconst (pc := 944) X dL_law_944 (v := 0) (by decide) ?_
          exact xM_none
        refine xr_if_eq (pc := 922) X 929 (by decide) dL_law_922 (fun _ => ?_) (fun _ => ?_)
        · refine xr_iconst (pc := 929) X dL_law_929 (v := 0) (by decide) ?_
          exact hKK178 _ _
        refine xr_iconst (pc := 925) X dL_law_925 (v := 1) (by decide) ?_
        refine xr_goto (pc := 926) X 930 (by decide) dL_law_926 ?_
        exact hKK178 _ _
      refine xr_if_eq (pc := 895) X 902 (by decide) dL_law_895 (fun _ => ?_) (fun _ => ?_)
      · refine xr_iconst (pc := 902) X dL_law_902 (v := 0) (by decide) ?_
        exact hKK180 _ _
      refine xr_iconst (pc := 898) X dL_law_898 (v := 1) (by decide) ?_
      refine xr_goto (pc := 899) X 903 (by decide) dL_law_899 ?_
      exact hKK180 _ _
    refine x_if (fun hcc193 => ?_) (fun hcc193 => ?_)
    · refine xr_tin (off := 927) (pc := 39) X 966 dL_law_39 (by rw [hcc193]; decide) (by rw [hcc193]; decide) (by rw [hcc193]; rfl) (by decide) ?_
      refine xr_aload_n (pc := 966) X (i := 1) 1 rfl rfl dL_law_966 ?_
      refine xr_aload_n (pc := 967) X (i := 0) 0 rfl rfl dL_law_967 ?_
      refine xr_iload (pc := 968) X (i := 4) 4 rfl dL_law_968 ?_
      refine xr_iconst (pc := 970) X dL_law_970 (v := 1) (by decide) ?_
      refine xr_iadd (pc := 971) X dL_law_971 ?_
      refine xr_sld (pc := 972) X hSC dL_law_972 (fun zz182 => ?_)
      refine xr_aload_n (pc := 973) X (i := 3) 3 rfl rfl dL_law_973 ?_
      refine xr_callSWI (na := 3) (pc := 974) X [.ref (ad oo1), .int zz182, .ref (ad aa3)] (c_L_flush Γ.2.1 hI hst oo1 hh1 zz182 aa3 hh3 σ) (wG_SW wm_25_18 wm_25_16 wm_25_17 wm_6_14) rfl rfl rfl (by decide +kernel) ⟨Nat.le_of_ble_eq_true rfl, Nat.le_of_ble_eq_true rfl⟩ rfl rfl (Nat.le_of_ble_eq_true rfl) ⟨(show _ ≤ 601024 by omega), (show _ ≤ 7293034 by omega)⟩ dL_law_974 (fun zz184 σ183 => ?_)
      refine xr_istore (pc := 977) X (i := 5) [1, 2, 3, 4, 5, 0] (Nat.le_of_ble_eq_true rfl) hnL rfl dL_law_977 ?_
      refine xr_aload_n (pc := 979) X (i := 2) 2 rfl rfl dL_law_979 ?_
      refine xr_aload_n (pc := 980) X (i := 0) 0 rfl rfl dL_law_980 ?_
      refine xr_iload (pc := 981) X (i := 4) 4 rfl dL_law_981 ?_
      refine xr_iconst (pc := 983) X dL_law_983 (v := 1) (by decide) ?_
      refine xr_iadd (pc := 984) X dL_law_984 ?_
      refine xr_sld (pc := 985) X hSC dL_law_985 (fun zz185 => ?_)
      refine xr_callVI (na := 1) (pc := 986) X (oo2) [.int zz185] _ (c_X6_flush Γ.2.1 hI oo2 hh2 zz185 σ183) (wG_V wm_26_2 wm_25_23 wm_26_0 wm_26_1 wm_1_5) rfl rfl rfl (by decide +kernel) ⟨Nat.le_of_ble_eq_true rfl, Nat.le_of_ble_eq_true rfl⟩ hh2.1.1 hh2.1.2 rfl (T := TX6) (C := RX6) rfl rfl rfl (Nat.le_of_ble_eq_true rfl) ⟨(show _ ≤ 601024 by omega), (show _ ≤ 7293034 by omega)⟩ dL_law_986 (fun zz187 σ186 => ?_)
      refine xr_istore (pc := 989) X (i := 6) [1, 2, 3, 4, 5, 6, 0] (Nat.le_of_ble_eq_true rfl) hnL rfl dL_law_989 ?_
      refine xr_aload_n (pc := 991) X (i := 2) 2 rfl rfl dL_law_991 ?_
      refine xr_callVI (na := 0) (pc := 992) X (oo2) [] _ (c_X6_thrown Γ.2.1 hI oo2 hh2 σ186) (wG_V wm_8_10 wm_8_7 wm_8_8 wm_8_9 wm_1_5) rfl rfl rfl (by decide +kernel) ⟨Nat.le_of_ble_eq_true rfl, Nat.le_of_ble_eq_true rfl⟩ hh2.1.1 hh2.1.2 rfl (T := TX6) (C := RX6) rfl rfl rfl (Nat.le_of_ble_eq_true rfl) ⟨(show _ ≤ 601024 by omega), (show _ ≤ 7293034 by omega)⟩ dL_law_992 (fun zz189 σ188 => ?_)
      refine xr_iload (pc := 995) X (i := 5) 5 rfl dL_law_995 ?_
      refine xr_icmp_eq (pc := 997) X 1002 (by decide) dL_law_997 (fun _ => ?_) (fun _ => ?_)
      · refine xr_iload (pc := 1002) X (i := 5) 5 rfl dL_law_1002 ?_
        refine xr_if_ne (pc := 1004) X 1019 (by decide) dL_law_1004 (fun _ => ?_) (fun _ => ?_)
        · refine xr_goto (pc := 1019) X 1762 (by decide) dL_law_1019 ?_
          refine xr_iinc (pc := 1762) X (i := 4) (j := 4) [1, 2, 3, 4, 0, 5, 6] (Nat.le_of_ble_eq_true rfl) hnL rfl rfl (fun zz190 => [(0, .ref bb), (1, .ref (ad oo1)), (2, .ref (ad oo2)), (3, .ref (ad aa3)), (4, .int zz190), (5, .int zz184), (6, .int zz187)]) (fun _ => rfl) dL_law_1762 (fun zz190 => ?_)
          refine xr_goto (pc := 1765) X 23 (by decide) dL_law_1765 ?_
          exact x_sub [0, 1, 2, 3, 4] rfl (ihh _ _ _ _ (by omega) (by omega))
        refine xr_aload_n (pc := 1007) X (i := 3) 3 rfl rfl dL_law_1007 ?_
        refine xr_iconst (pc := 1008) X dL_law_1008 (v := 0) (by decide) ?_
        refine xr_lald (pc := 1009) X (aa3) 1 hh3.1 hh3.2 dL_law_1009 (fun zz191 => ?_)
        refine xr_iload (pc := 1010) X (i := 6) 6 rfl dL_law_1010 ?_
        refine xr_i2l (pc := 1012) X dL_law_1012 ?_
        refine xr_lcmp (pc := 1013) X dL_law_1013 ?_
        refine xr_if_eq (pc := 1014) X 1019 (by decide) dL_law_1014 (fun _ => ?_) (fun _ => ?_)
        · refine xr_goto (pc := 1019) X 1762 (by decide) dL_law_1019 ?_
          refine xr_iinc (pc := 1762) X (i := 4) (j := 4) [1, 2, 3, 4, 0, 5, 6] (Nat.le_of_ble_eq_true rfl) hnL rfl rfl (fun zz192 => [(0, .ref bb), (1, .ref (ad oo1)), (2, .ref (ad oo2)), (3, .ref (ad aa3)), (4, .int zz192), (5, .int zz184), (6, .int zz187)]) (fun _ => rfl) dL_law_1762 (fun zz192 => ?_)
          refine xr_goto (pc := 1765) X 23 (by decide) dL_law_1765 ?_
          exact x_sub [0, 1, 2, 3, 4] rfl (ihh _ _ _ _ (by omega) (by omega))
        refine xr_iconst (pc := 1017) X dL_law_1017 (v := 0) (by decide) ?_
        exact xM_none
      refine xr_iconst (pc := 1000) X dL_law_1000 (v := 0) (by decide) ?_
      exact xM_none
    refine x_if (fun hcc205 => ?_) (fun hcc205 => ?_)
    · refine xr_tin (off := 983) (pc := 39) X 1022 dL_law_39 (by rw [hcc205]; decide) (by rw [hcc205]; decide) (by rw [hcc205]; rfl) (by decide) ?_
      refine xr_aload_n (pc := 1022) X (i := 1) 1 rfl rfl dL_law_1022 ?_
      refine xr_aload_n (pc := 1023) X (i := 0) 0 rfl rfl dL_law_1023 ?_
      refine xr_iload (pc := 1024) X (i := 4) 4 rfl dL_law_1024 ?_
      refine xr_iconst (pc := 1026) X dL_law_1026 (v := 1) (by decide) ?_
      refine xr_iadd (pc := 1027) X dL_law_1027 ?_
      refine xr_sld (pc := 1028) X hSC dL_law_1028 (fun zz194 => ?_)
      refine xr_aload_n (pc := 1029) X (i := 3) 3 rfl rfl dL_law_1029 ?_
      refine xr_callSWI (na := 3) (pc := 1030) X [.ref (ad oo1), .int zz194, .ref (ad aa3)] (c_L_ticks Γ.2.1 hI hst oo1 hh1 zz194 aa3 hh3 σ) (wG_SW wm_26_5 wm_26_3 wm_26_4 wm_6_14) rfl rfl rfl (by decide +kernel) ⟨Nat.le_of_ble_eq_true rfl, Nat.le_of_ble_eq_true rfl⟩ rfl rfl (Nat.le_of_ble_eq_true rfl) ⟨(show _ ≤ 601024 by omega), (show _ ≤ 7293034 by omega)⟩ dL_law_1030 (fun zz196 σ195 => ?_)
      refine xr_istore (pc := 1033) X (i := 5) [1, 2, 3, 4, 5, 0] (Nat.le_of_ble_eq_true rfl) hnL rfl dL_law_1033 ?_
      refine xr_aload_n (pc := 1035) X (i := 2) 2 rfl rfl dL_law_1035 ?_
      refine xr_aload_n (pc := 1036) X (i := 0) 0 rfl rfl dL_law_1036 ?_
      refine xr_iload (pc := 1037) X (i := 4) 4 rfl dL_law_1037 ?_
      refine xr_iconst (pc := 1039) X dL_law_1039 (v := 1) (by decide) ?_
      refine xr_iadd (pc := 1040) X dL_law_1040 ?_
      refine xr_sld (pc := 1041) X hSC dL_law_1041 (fun zz197 => ?_)
      refine xr_callVI (na := 1) (pc := 1042) X (oo2) [.int zz197] _ (c_X6_ticks Γ.2.1 hI oo2 hh2 zz197 σ195) (wG_V wm_26_14 wm_26_11 wm_26_12 wm_26_13 wm_1_5) rfl rfl rfl (by decide +kernel) ⟨Nat.le_of_ble_eq_true rfl, Nat.le_of_ble_eq_true rfl⟩ hh2.1.1 hh2.1.2 rfl (T := TX6) (C := RX6) rfl rfl rfl (Nat.le_of_ble_eq_true rfl) ⟨(show _ ≤ 601024 by omega), (show _ ≤ 7293034 by omega)⟩ dL_law_1042 (fun zz199 σ198 => ?_)
      refine xr_istore (pc := 1045) X (i := 6) [1, 2, 3, 4, 5, 6, 0] (Nat.le_of_ble_eq_true rfl) hnL rfl dL_law_1045 ?_
      refine xr_aload_n (pc := 1047) X (i := 2) 2 rfl rfl dL_law_1047 ?_
      refine xr_callVI (na := 0) (pc := 1048) X (oo2) [] _ (c_X6_thrown Γ.2.1 hI oo2 hh2 σ198) (wG_V wm_8_10 wm_8_7 wm_8_8 wm_8_9 wm_1_5) rfl rfl rfl (by decide +kernel) ⟨Nat.le_of_ble_eq_true rfl, Nat.le_of_ble_eq_true rfl⟩ hh2.1.1 hh2.1.2 rfl (T := TX6) (C := RX6) rfl rfl rfl (Nat.le_of_ble_eq_true rfl) ⟨(show _ ≤ 601024 by omega), (show _ ≤ 7293034 by omega)⟩ dL_law_1048 (fun zz201 σ200 => ?_)
      refine xr_iload (pc := 1051) X (i := 5) 5 rfl dL_law_1051 ?_
      refine xr_icmp_eq (pc := 1053) X 1058 (by decide) dL_law_1053 (fun _ => ?_) (fun _ => ?_)
      · refine xr_iload (pc := 1058) X (i := 5) 5 rfl dL_law_1058 ?_
        refine xr_if_ne (pc := 1060) X 1075 (by decide) dL_law_1060 (fun _ => ?_) (fun _ => ?_)
        · refine xr_goto (pc := 1075) X 1762 (by decide) dL_law_1075 ?_
          refine xr_iinc (pc := 1762) X (i := 4) (j := 4) [1, 2, 3, 4, 0, 5, 6] (Nat.le_of_ble_eq_true rfl) hnL rfl rfl (fun zz202 => [(0, .ref bb), (1, .ref (ad oo1)), (2, .ref (ad oo2)), (3, .ref (ad aa3)), (4, .int zz202), (5, .int zz196), (6, .int zz199)]) (fun _ => rfl) dL_law_1762 (fun zz202 => ?_)
          refine xr_goto (pc := 1765) X 23 (by decide) dL_law_1765 ?_
          exact x_sub [0, 1, 2, 3, 4] rfl (ihh _ _ _ _ (by omega) (by omega))
        refine xr_aload_n (pc := 1063) X (i := 3) 3 rfl rfl dL_law_1063 ?_
        refine xr_iconst (pc := 1064) X dL_law_1064 (v := 0) (by decide) ?_
        refine xr_lald (pc := 1065) X (aa3) 1 hh3.1 hh3.2 dL_law_1065 (fun zz203 => ?_)
        refine xr_iload (pc := 1066) X (i := 6) 6 rfl dL_law_1066 ?_
        refine xr_i2l (pc := 1068) X dL_law_1068 ?_
        refine xr_lcmp (pc := 1069) X dL_law_1069 ?_
        refine xr_if_eq (pc := 1070) X 1075 (by decide) dL_law_1070 (fun _ => ?_) (fun _ => ?_)
        · refine xr_goto (pc := 1075) X 1762 (by decide) dL_law_1075 ?_
          refine xr_iinc (pc := 1762) X (i := 4) (j := 4) [1, 2, 3, 4, 0, 5, 6] (Nat.le_of_ble_eq_true rfl) hnL rfl rfl (fun zz204 => [(0, .ref bb), (1, .ref (ad oo1)), (2, .ref (ad oo2)), (3, .ref (ad aa3)), (4, .int zz204), (5, .int zz196), (6, .int zz199)]) (fun _ => rfl) dL_law_1762 (fun zz204 => ?_)
          refine xr_goto (pc := 1765) X 23 (by decide) dL_law_1765 ?_
          exact x_sub [0, 1, 2, 3, 4] rfl (ihh _ _ _ _ (by omega) (by omega))
        refine xr_iconst (pc := 1073) X dL_law_1073 (v := 0) (by decide) ?_
        exact xM_none
      refine xr_iconst (pc := 1056) X dL_law_1056 (v := 0) (by decide) ?_
      exact xM_none
    refine x_if (fun hcc219 => ?_) (fun hcc219 => ?_)
    · refine xr_tin (off := 1039) (pc := 39) X 1078 dL_law_39 (by rw [hcc219]; decide) (by rw [hcc219]; decide) (by rw [hcc219]; rfl) (by decide) ?_
      refine xr_aload_n (pc := 1078) X (i := 1) 1 rfl rfl dL_law_1078 ?_
      refine xr_aload_n (pc := 1079) X (i := 0) 0 rfl rfl dL_law_1079 ?_
      refine xr_iload (pc := 1080) X (i := 4) 4 rfl dL_law_1080 ?_
      refine xr_iconst (pc := 1082) X dL_law_1082 (v := 1) (by decide) ?_
      refine xr_iadd (pc := 1083) X dL_law_1083 ?_
      refine xr_sld (pc := 1084) X hSC dL_law_1084 (fun zz206 => ?_)
      refine xr_aload_n (pc := 1085) X (i := 0) 0 rfl rfl dL_law_1085 ?_
      refine xr_iload (pc := 1086) X (i := 4) 4 rfl dL_law_1086 ?_
      refine xr_iconst (pc := 1088) X dL_law_1088 (v := 2) (by decide) ?_
      refine xr_iadd (pc := 1089) X dL_law_1089 ?_
      refine xr_sld (pc := 1090) X hSC dL_law_1090 (fun zz207 => ?_)
      refine xr_aload_n (pc := 1091) X (i := 3) 3 rfl rfl dL_law_1091 ?_
      refine xr_callSWI (na := 4) (pc := 1092) X [.ref (ad oo1), .int zz206, .int zz207, .ref (ad aa3)] (c_L_set Γ.2.1 hI hst oo1 hh1 zz206 zz207 aa3 hh3 σ) (wG_SW wm_26_18 wm_26_16 wm_26_17 wm_6_14) rfl rfl rfl (by decide +kernel) ⟨Nat.le_of_ble_eq_true rfl, Nat.le_of_ble_eq_true rfl⟩ rfl rfl (Nat.le_of_ble_eq_true rfl) ⟨(show _ ≤ 601024 by omega), (show _ ≤ 7293034 by omega)⟩ dL_law_1092 (fun zz209 σ208 => ?_)
      refine xr_istore (pc := 1095) X (i := 5) [1, 2, 3, 4, 5, 0] (Nat.le_of_ble_eq_true rfl) hnL rfl dL_law_1095 ?_
      refine xr_aload_n (pc := 1097) X (i := 2) 2 rfl rfl dL_law_1097 ?_
      refine xr_aload_n (pc := 1098) X (i := 0) 0 rfl rfl dL_law_1098 ?_
      refine xr_iload (pc := 1099) X (i := 4) 4 rfl dL_law_1099 ?_
      refine xr_iconst (pc := 1101) X dL_law_1101 (v := 1) (by decide) ?_
      refine xr_iadd (pc := 1102) X dL_law_1102 ?_
      refine xr_sld (pc := 1103) X hSC dL_law_1103 (fun zz210 => ?_)
      refine xr_aload_n (pc := 1104) X (i := 0) 0 rfl rfl dL_law_1104 ?_
      refine xr_iload (pc := 1105) X (i := 4) 4 rfl dL_law_1105 ?_
      refine xr_iconst (pc := 1107) X dL_law_1107 (v := 2) (by decide) ?_
      refine xr_iadd (pc := 1108) X dL_law_1108 ?_
      refine xr_sld (pc := 1109) X hSC dL_law_1109 (fun zz211 => ?_)
      refine xr_callVI (na := 2) (pc := 1110) X (oo2) [.int zz210, .int zz211] _ (c_X6_set Γ.2.1 hI oo2 hh2 zz210 zz211 σ208) (wG_V wm_27_2 wm_26_23 wm_27_0 wm_27_1 wm_1_5) rfl rfl rfl (by decide +kernel) ⟨Nat.le_of_ble_eq_true rfl, Nat.le_of_ble_eq_true rfl⟩ hh2.1.1 hh2.1.2 rfl (T := TX6) (C := RX6) rfl rfl rfl (Nat.le_of_ble_eq_true rfl) ⟨(show _ ≤ 601024 by omega), (show _ ≤ 7293034 by omega)⟩ dL_law_1110 (fun zz213 σ212 => ?_)
      refine xr_istore (pc := 1113) X (i := 6) [1, 2, 3, 4, 5, 6, 0] (Nat.le_of_ble_eq_true rfl) hnL rfl dL_law_1113 ?_
      refine xr_aload_n (pc := 1115) X (i := 2) 2 rfl rfl dL_law_1115 ?_
      refine xr_callVI (na := 0) (pc := 1116) X (oo2) [] _ (c_X6_thrown Γ.2.1 hI oo2 hh2 σ212) (wG_V wm_8_10 wm_8_7 wm_8_8 wm_8_9 wm_1_5) rfl rfl rfl (by decide +kernel) ⟨Nat.le_of_ble_eq_true rfl, Nat.le_of_ble_eq_true rfl⟩ hh2.1.1 hh2.1.2 rfl (T := TX6) (C := RX6) rfl rfl rfl (Nat.le_of_ble_eq_true rfl) ⟨(show _ ≤ 601024 by omega), (show _ ≤ 7293034 by omega)⟩ dL_law_1116 (fun zz215 σ214 => ?_)
      refine xr_iload (pc := 1119) X (i := 5) 5 rfl dL_law_1119 ?_
      refine xr_icmp_eq (pc := 1121) X 1126 (by decide) dL_law_1121 (fun _ => ?_) (fun _ => ?_)
      · refine xr_iload (pc := 1126) X (i := 5) 5 rfl dL_law_1126 ?_
        refine xr_if_ne (pc := 1128) X 1143 (by decide) dL_law_1128 (fun _ => ?_) (fun _ => ?_)
        · refine xr_goto (pc := 1143) X 1762 (by decide) dL_law_1143 ?_
          refine xr_iinc (pc := 1762) X (i := 4) (j := 4) [1, 2, 3, 4, 0, 5, 6] (Nat.le_of_ble_eq_true rfl) hnL rfl rfl (fun zz216 => [(0, .ref bb), (1, .ref (ad oo1)), (2, .ref (ad oo2)), (3, .ref (ad aa3)), (4, .int zz216), (5, .int zz209), (6, .int zz213)]) (fun _ => rfl) dL_law_1762 (fun zz216 => ?_)
          refine xr_goto (pc := 1765) X 23 (by decide) dL_law_1765 ?_
          exact x_sub [0, 1, 2, 3, 4] rfl (ihh _ _ _ _ (by omega) (by omega))
        refine xr_aload_n (pc := 1131) X (i := 3) 3 rfl rfl dL_law_1131 ?_
        refine xr_iconst (pc := 1132) X dL_law_1132 (v := 0) (by decide) ?_
        refine xr_lald (pc := 1133) X (aa3) 1 hh3.1 hh3.2 dL_law_1133 (fun zz217 => ?_)
        refine xr_iload (pc := 1134) X (i := 6) 6 rfl dL_law_1134 ?_
        refine xr_i2l (pc := 1136) X dL_law_1136 ?_
        refine xr_lcmp (pc := 1137) X dL_law_1137 ?_
        refine xr_if_eq (pc := 1138) X 1143 (by decide) dL_law_1138 (fun _ => ?_) (fun _ => ?_)
        · refine xr_goto (pc := 1143) X 1762 (by decide) dL_law_1143 ?_
          refine xr_iinc (pc := 1762) X (i := 4) (j := 4) [1, 2, 3, 4, 0, 5, 6] (Nat.le_of_ble_eq_true rfl) hnL rfl rfl (fun zz218 => [(0, .ref bb), (1, .ref (ad oo1)), (2, .ref (ad oo2)), (3, .ref (ad aa3)), (4, .int zz218), (5, .int zz209), (6, .int zz213)]) (fun _ => rfl) dL_law_1762 (fun zz218 => ?_)
          refine xr_goto (pc := 1765) X 23 (by decide) dL_law_1765 ?_
          exact x_sub [0, 1, 2, 3, 4] rfl (ihh _ _ _ _ (by omega) (by omega))
        refine xr_iconst (pc := 1141) X dL_law_1141 (v := 0) (by decide) ?_
        exact xM_none
      refine xr_iconst (pc := 1124) X dL_law_1124 (v := 0) (by decide) ?_
      exact xM_none
    refine x_if (fun hcc229 => ?_) (fun hcc229 => ?_)
    · refine xr_tin (off := 1107) (pc := 39) X 1146 dL_law_39 (by rw [hcc229]; decide) (by rw [hcc229]; decide) (by rw [hcc229]; rfl) (by decide) ?_
      refine xr_aload_n (pc := 1146) X (i := 1) 1 rfl rfl dL_law_1146 ?_
      refine xr_aload_n (pc := 1147) X (i := 3) 3 rfl rfl dL_law_1147 ?_
      refine xr_callSWI (na := 2) (pc := 1148) X [.ref (ad oo1), .ref (ad aa3)] (c_L_undo Γ.2.1 hI hst oo1 hh1 aa3 hh3 σ) (wG_SW wm_27_9 wm_27_7 wm_27_8 wm_6_14) rfl rfl rfl (by decide +kernel) ⟨Nat.le_of_ble_eq_true rfl, Nat.le_of_ble_eq_true rfl⟩ rfl rfl (Nat.le_of_ble_eq_true rfl) ⟨(show _ ≤ 601024 by omega), (show _ ≤ 7293034 by omega)⟩ dL_law_1148 (fun zz221 σ220 => ?_)
      refine xr_istore (pc := 1151) X (i := 5) [1, 2, 3, 4, 5, 0] (Nat.le_of_ble_eq_true rfl) hnL rfl dL_law_1151 ?_
      refine xr_aload_n (pc := 1153) X (i := 2) 2 rfl rfl dL_law_1153 ?_
      refine xr_callVI (na := 0) (pc := 1154) X (oo2) [] _ (c_X6_undo Γ.2.1 hI oo2 hh2 σ220) (wG_V wm_27_21 wm_27_18 wm_27_19 wm_27_20 wm_1_5) rfl rfl rfl (by decide +kernel) ⟨Nat.le_of_ble_eq_true rfl, Nat.le_of_ble_eq_true rfl⟩ hh2.1.1 hh2.1.2 rfl (T := TX6) (C := RX6) rfl rfl rfl (Nat.le_of_ble_eq_true rfl) ⟨(show _ ≤ 601024 by omega), (show _ ≤ 7293034 by omega)⟩ dL_law_1154 (fun zz223 σ222 => ?_)
      refine xr_istore (pc := 1157) X (i := 6) [1, 2, 3, 4, 5, 6, 0] (Nat.le_of_ble_eq_true rfl) hnL rfl dL_law_1157 ?_
      refine xr_aload_n (pc := 1159) X (i := 2) 2 rfl rfl dL_law_1159 ?_
      refine xr_callVI (na := 0) (pc := 1160) X (oo2) [] _ (c_X6_thrown Γ.2.1 hI oo2 hh2 σ222) (wG_V wm_8_10 wm_8_7 wm_8_8 wm_8_9 wm_1_5) rfl rfl rfl (by decide +kernel) ⟨Nat.le_of_ble_eq_true rfl, Nat.le_of_ble_eq_true rfl⟩ hh2.1.1 hh2.1.2 rfl (T := TX6) (C := RX6) rfl rfl rfl (Nat.le_of_ble_eq_true rfl) ⟨(show _ ≤ 601024 by omega), (show _ ≤ 7293034 by omega)⟩ dL_law_1160 (fun zz225 σ224 => ?_)
      refine xr_iload (pc := 1163) X (i := 5) 5 rfl dL_law_1163 ?_
      refine xr_icmp_eq (pc := 1165) X 1170 (by decide) dL_law_1165 (fun _ => ?_) (fun _ => ?_)
      · refine xr_iload (pc := 1170) X (i := 5) 5 rfl dL_law_1170 ?_
        refine xr_if_ne (pc := 1172) X 1187 (by decide) dL_law_1172 (fun _ => ?_) (fun _ => ?_)
        · refine xr_goto (pc := 1187) X 1762 (by decide) dL_law_1187 ?_
          refine xr_iinc (pc := 1762) X (i := 4) (j := 4) [1, 2, 3, 4, 0, 5, 6] (Nat.le_of_ble_eq_true rfl) hnL rfl rfl (fun zz226 => [(0, .ref bb), (1, .ref (ad oo1)), (2, .ref (ad oo2)), (3, .ref (ad aa3)), (4, .int zz226), (5, .int zz221), (6, .int zz223)]) (fun _ => rfl) dL_law_1762 (fun zz226 => ?_)
          refine xr_goto (pc := 1765) X 23 (by decide) dL_law_1765 ?_
          exact x_sub [0, 1, 2, 3, 4] rfl (ihh _ _ _ _ (by omega) (by omega))
        refine xr_aload_n (pc := 1175) X (i := 3) 3 rfl rfl dL_law_1175 ?_
        refine xr_iconst (pc := 1176) X dL_law_1176 (v := 0) (by decide) ?_
        refine xr_lald (pc := 1177) X (aa3) 1 hh3.1 hh3.2 dL_law_1177 (fun zz227 => ?_)
        refine xr_iload (pc := 1178) X (i := 6) 6 rfl dL_law_1178 ?_
        refine xr_i2l (pc := 1180) X dL_law_1180 ?_
        refine xr_lcmp (pc := 1181) X dL_law_1181 ?_
        refine xr_if_eq (pc := 1182) X 1187 (by decide) dL_law_1182 (fun _ => ?_) (fun _ => ?_)
        · refine xr_goto (pc := 1187) X 1762 (by decide) dL_law_1187 ?_
          refine xr_iinc (pc := 1762) X (i := 4) (j := 4) [1, 2, 3, 4, 0, 5, 6] (Nat.le_of_ble_eq_true rfl) hnL rfl rfl (fun zz228 => [(0, .ref bb), (1, .ref (ad oo1)), (2, .ref (ad oo2)), (3, .ref (ad aa3)), (4, .int zz228), (5, .int zz221), (6, .int zz223)]) (fun _ => rfl) dL_law_1762 (fun zz228 => ?_)
          refine xr_goto (pc := 1765) X 23 (by decide) dL_law_1765 ?_
          exact x_sub [0, 1, 2, 3, 4] rfl (ihh _ _ _ _ (by omega) (by omega))
        refine xr_iconst (pc := 1185) X dL_law_1185 (v := 0) (by decide) ?_
        exact xM_none
      refine xr_iconst (pc := 1168) X dL_law_1168 (v := 0) (by decide) ?_
      exact xM_none
    refine x_if (fun hcc241 => ?_) (fun hcc241 => ?_)
    · refine xr_tin (off := 1151) (pc := 39) X 1190 dL_law_39 (by rw [hcc241]; decide) (by rw [hcc241]; decide) (by rw [hcc241]; rfl) (by decide) ?_
      refine xr_aload_n (pc := 1190) X (i := 1) 1 rfl rfl dL_law_1190 ?_
      refine xr_aload_n (pc := 1191) X (i := 0) 0 rfl rfl dL_law_1191 ?_
      refine xr_iload (pc := 1192) X (i := 4) 4 rfl dL_law_1192 ?_
      refine xr_iconst (pc := 1194) X dL_law_1194 (v := 1) (by decide) ?_
      refine xr_iadd (pc := 1195) X dL_law_1195 ?_
      refine xr_sld (pc := 1196) X hSC dL_law_1196 (fun zz230 => ?_)
      refine xr_aload_n (pc := 1197) X (i := 3) 3 rfl rfl dL_law_1197 ?_
      refine xr_callSWI (na := 3) (pc := 1198) X [.ref (ad oo1), .int zz230, .ref (ad aa3)] (c_L_doneIn Γ.2.1 hI hst oo1 hh1 zz230 aa3 hh3 σ) (wG_SW wm_28_0 wm_27_22 wm_27_23 wm_6_14) rfl rfl rfl (by decide +kernel) ⟨Nat.le_of_ble_eq_true rfl, Nat.le_of_ble_eq_true rfl⟩ rfl rfl (Nat.le_of_ble_eq_true rfl) ⟨(show _ ≤ 601024 by omega), (show _ ≤ 7293034 by omega)⟩ dL_law_1198 (fun zz232 σ231 => ?_)
      refine xr_istore (pc := 1201) X (i := 5) [1, 2, 3, 4, 5, 0] (Nat.le_of_ble_eq_true rfl) hnL rfl dL_law_1201 ?_
      refine xr_aload_n (pc := 1203) X (i := 2) 2 rfl rfl dL_law_1203 ?_
      refine xr_aload_n (pc := 1204) X (i := 0) 0 rfl rfl dL_law_1204 ?_
      refine xr_iload (pc := 1205) X (i := 4) 4 rfl dL_law_1205 ?_
      refine xr_iconst (pc := 1207) X dL_law_1207 (v := 1) (by decide) ?_
      refine xr_iadd (pc := 1208) X dL_law_1208 ?_
      refine xr_sld (pc := 1209) X hSC dL_law_1209 (fun zz233 => ?_)
      refine xr_callVI (na := 1) (pc := 1210) X (oo2) [.int zz233] _ (c_X6_doneIn Γ.2.1 hI oo2 hh2 zz233 σ231) (wG_V wm_28_21 wm_28_18 wm_28_19 wm_28_20 wm_1_5) rfl rfl rfl (by decide +kernel) ⟨Nat.le_of_ble_eq_true rfl, Nat.le_of_ble_eq_true rfl⟩ hh2.1.1 hh2.1.2 rfl (T := TX6) (C := RX6) rfl rfl rfl (Nat.le_of_ble_eq_true rfl) ⟨(show _ ≤ 601024 by omega), (show _ ≤ 7293034 by omega)⟩ dL_law_1210 (fun zz235 σ234 => ?_)
      refine xr_istore (pc := 1213) X (i := 6) [1, 2, 3, 4, 5, 6, 0] (Nat.le_of_ble_eq_true rfl) hnL rfl dL_law_1213 ?_
      refine xr_aload_n (pc := 1215) X (i := 2) 2 rfl rfl dL_law_1215 ?_
      refine xr_callVI (na := 0) (pc := 1216) X (oo2) [] _ (c_X6_thrown Γ.2.1 hI oo2 hh2 σ234) (wG_V wm_8_10 wm_8_7 wm_8_8 wm_8_9 wm_1_5) rfl rfl rfl (by decide +kernel) ⟨Nat.le_of_ble_eq_true rfl, Nat.le_of_ble_eq_true rfl⟩ hh2.1.1 hh2.1.2 rfl (T := TX6) (C := RX6) rfl rfl rfl (Nat.le_of_ble_eq_true rfl) ⟨(show _ ≤ 601024 by omega), (show _ ≤ 7293034 by omega)⟩ dL_law_1216 (fun zz237 σ236 => ?_)
      refine xr_iload (pc := 1219) X (i := 5) 5 rfl dL_law_1219 ?_
      refine xr_icmp_eq (pc := 1221) X 1226 (by decide) dL_law_1221 (fun _ => ?_) (fun _ => ?_)
      · refine xr_iload (pc := 1226) X (i := 5) 5 rfl dL_law_1226 ?_
        refine xr_if_ne (pc := 1228) X 1243 (by decide) dL_law_1228 (fun _ => ?_) (fun _ => ?_)
        · refine xr_goto (pc := 1243) X 1762 (by decide) dL_law_1243 ?_
          refine xr_iinc (pc := 1762) X (i := 4) (j := 4) [1, 2, 3, 4, 0, 5, 6] (Nat.le_of_ble_eq_true rfl) hnL rfl rfl (fun zz238 => [(0, .ref bb), (1, .ref (ad oo1)), (2, .ref (ad oo2)), (3, .ref (ad aa3)), (4, .int zz238), (5, .int zz232), (6, .int zz235)]) (fun _ => rfl) dL_law_1762 (fun zz238 => ?_)
          refine xr_goto (pc := 1765) X 23 (by decide) dL_law_1765 ?_
          exact x_sub [0, 1, 2, 3, 4] rfl (ihh _ _ _ _ (by omega) (by omega))
        refine xr_aload_n (pc := 1231) X (i := 3) 3 rfl rfl dL_law_1231 ?_
        refine xr_iconst (pc := 1232) X dL_law_1232 (v := 0) (by decide) ?_
        refine xr_lald (pc := 1233) X (aa3) 1 hh3.1 hh3.2 dL_law_1233 (fun zz239 => ?_)
        refine xr_iload (pc := 1234) X (i := 6) 6 rfl dL_law_1234 ?_
        refine xr_i2l (pc := 1236) X dL_law_1236 ?_
        refine xr_lcmp (pc := 1237) X dL_law_1237 ?_
        refine xr_if_eq (pc := 1238) X 1243 (by decide) dL_law_1238 (fun _ => ?_) (fun _ => ?_)
        · refine xr_goto (pc := 1243) X 1762 (by decide) dL_law_1243 ?_
          refine xr_iinc (pc := 1762) X (i := 4) (j := 4) [1, 2, 3, 4, 0, 5, 6] (Nat.le_of_ble_eq_true rfl) hnL rfl rfl (fun zz240 => [(0, .ref bb), (1, .ref (ad oo1)), (2, .ref (ad oo2)), (3, .ref (ad aa3)), (4, .int zz240), (5, .int zz232), (6, .int zz235)]) (fun _ => rfl) dL_law_1762 (fun zz240 => ?_)
          refine xr_goto (pc := 1765) X 23 (by decide) dL_law_1765 ?_
          exact x_sub [0, 1, 2, 3, 4] rfl (ihh _ _ _ _ (by omega) (by omega))
        refine xr_iconst (pc := 1241) X dL_law_1241 (v := 0) (by decide) ?_
        exact xM_none
      refine xr_iconst (pc := 1224) X dL_law_1224 (v := 0) (by decide) ?_
      exact xM_none
    refine x_if (fun hcc255 => ?_) (fun hcc255 => ?_)
    · refine xr_tin (off := 1207) (pc := 39) X 1246 dL_law_39 (by rw [hcc255]; decide) (by rw [hcc255]; decide) (by rw [hcc255]; rfl) (by decide) ?_
      refine xr_aload_n (pc := 1246) X (i := 1) 1 rfl rfl dL_law_1246 ?_
      refine xr_aload_n (pc := 1247) X (i := 0) 0 rfl rfl dL_law_1247 ?_
      refine xr_iload (pc := 1248) X (i := 4) 4 rfl dL_law_1248 ?_
      refine xr_iconst (pc := 1250) X dL_law_1250 (v := 1) (by decide) ?_
      refine xr_iadd (pc := 1251) X dL_law_1251 ?_
      refine xr_sld (pc := 1252) X hSC dL_law_1252 (fun zz242 => ?_)
      refine xr_aload_n (pc := 1253) X (i := 0) 0 rfl rfl dL_law_1253 ?_
      refine xr_iload (pc := 1254) X (i := 4) 4 rfl dL_law_1254 ?_
      refine xr_iconst (pc := 1256) X dL_law_1256 (v := 2) (by decide) ?_
      refine xr_iadd (pc := 1257) X dL_law_1257 ?_
      refine xr_sld (pc := 1258) X hSC dL_law_1258 (fun zz243 => ?_)
      refine xr_aload_n (pc := 1259) X (i := 3) 3 rfl rfl dL_law_1259 ?_
      refine xr_callSWI (na := 4) (pc := 1260) X [.ref (ad oo1), .int zz242, .int zz243, .ref (ad aa3)] (c_L_thereIn Γ.2.1 hI hst oo1 hh1 zz242 zz243 aa3 hh3 σ) (wG_SW wm_29_6 wm_29_4 wm_29_5 wm_6_14) rfl rfl rfl (by decide +kernel) ⟨Nat.le_of_ble_eq_true rfl, Nat.le_of_ble_eq_true rfl⟩ rfl rfl (Nat.le_of_ble_eq_true rfl) ⟨(show _ ≤ 601024 by omega), (show _ ≤ 7293034 by omega)⟩ dL_law_1260 (fun zz245 σ244 => ?_)
      refine xr_istore (pc := 1263) X (i := 5) [1, 2, 3, 4, 5, 0] (Nat.le_of_ble_eq_true rfl) hnL rfl dL_law_1263 ?_
      refine xr_aload_n (pc := 1265) X (i := 2) 2 rfl rfl dL_law_1265 ?_
      refine xr_aload_n (pc := 1266) X (i := 0) 0 rfl rfl dL_law_1266 ?_
      refine xr_iload (pc := 1267) X (i := 4) 4 rfl dL_law_1267 ?_
      refine xr_iconst (pc := 1269) X dL_law_1269 (v := 1) (by decide) ?_
      refine xr_iadd (pc := 1270) X dL_law_1270 ?_
      refine xr_sld (pc := 1271) X hSC dL_law_1271 (fun zz246 => ?_)
      refine xr_aload_n (pc := 1272) X (i := 0) 0 rfl rfl dL_law_1272 ?_
      refine xr_iload (pc := 1273) X (i := 4) 4 rfl dL_law_1273 ?_
      refine xr_iconst (pc := 1275) X dL_law_1275 (v := 2) (by decide) ?_
      refine xr_iadd (pc := 1276) X dL_law_1276 ?_
      refine xr_sld (pc := 1277) X hSC dL_law_1277 (fun zz247 => ?_)
      refine xr_callVI (na := 2) (pc := 1278) X (oo2) [.int zz246, .int zz247] _ (c_X6_thereIn Γ.2.1 hI oo2 hh2 zz246 zz247 σ244) (wG_V wm_29_18 wm_29_15 wm_29_16 wm_29_17 wm_1_5) rfl rfl rfl (by decide +kernel) ⟨Nat.le_of_ble_eq_true rfl, Nat.le_of_ble_eq_true rfl⟩ hh2.1.1 hh2.1.2 rfl (T := TX6) (C := RX6) rfl rfl rfl (Nat.le_of_ble_eq_true rfl) ⟨(show _ ≤ 601024 by omega), (show _ ≤ 7293034 by omega)⟩ dL_law_1278 (fun zz249 σ248 => ?_)
      refine xr_istore (pc := 1281) X (i := 6) [1, 2, 3, 4, 5, 6, 0] (Nat.le_of_ble_eq_true rfl) hnL rfl dL_law_1281 ?_
      refine xr_aload_n (pc := 1283) X (i := 2) 2 rfl rfl dL_law_1283 ?_
      refine xr_callVI (na := 0) (pc := 1284) X (oo2) [] _ (c_X6_thrown Γ.2.1 hI oo2 hh2 σ248) (wG_V wm_8_10 wm_8_7 wm_8_8 wm_8_9 wm_1_5) rfl rfl rfl (by decide +kernel) ⟨Nat.le_of_ble_eq_true rfl, Nat.le_of_ble_eq_true rfl⟩ hh2.1.1 hh2.1.2 rfl (T := TX6) (C := RX6) rfl rfl rfl (Nat.le_of_ble_eq_true rfl) ⟨(show _ ≤ 601024 by omega), (show _ ≤ 7293034 by omega)⟩ dL_law_1284 (fun zz251 σ250 => ?_)
      refine xr_iload (pc := 1287) X (i := 5) 5 rfl dL_law_1287 ?_
      refine xr_icmp_eq (pc := 1289) X 1294 (by decide) dL_law_1289 (fun _ => ?_) (fun _ => ?_)
      · refine xr_iload (pc := 1294) X (i := 5) 5 rfl dL_law_1294 ?_
        refine xr_if_ne (pc := 1296) X 1311 (by decide) dL_law_1296 (fun _ => ?_) (fun _ => ?_)
        · refine xr_goto (pc := 1311) X 1762 (by decide) dL_law_1311 ?_
          refine xr_iinc (pc := 1762) X (i := 4) (j := 4) [1, 2, 3, 4, 0, 5, 6] (Nat.le_of_ble_eq_true rfl) hnL rfl rfl (fun zz252 => [(0, .ref bb), (1, .ref (ad oo1)), (2, .ref (ad oo2)), (3, .ref (ad aa3)), (4, .int zz252), (5, .int zz245), (6, .int zz249)]) (fun _ => rfl) dL_law_1762 (fun zz252 => ?_)
          refine xr_goto (pc := 1765) X 23 (by decide) dL_law_1765 ?_
          exact x_sub [0, 1, 2, 3, 4] rfl (ihh _ _ _ _ (by omega) (by omega))
        refine xr_aload_n (pc := 1299) X (i := 3) 3 rfl rfl dL_law_1299 ?_
        refine xr_iconst (pc := 1300) X dL_law_1300 (v := 0) (by decide) ?_
        refine xr_lald (pc := 1301) X (aa3) 1 hh3.1 hh3.2 dL_law_1301 (fun zz253 => ?_)
        refine xr_iload (pc := 1302) X (i := 6) 6 rfl dL_law_1302 ?_
        refine xr_i2l (pc := 1304) X dL_law_1304 ?_
        refine xr_lcmp (pc := 1305) X dL_law_1305 ?_
        refine xr_if_eq (pc := 1306) X 1311 (by decide) dL_law_1306 (fun _ => ?_) (fun _ => ?_)
        · refine xr_goto (pc := 1311) X 1762 (by decide) dL_law_1311 ?_
          refine xr_iinc (pc := 1762) X (i := 4) (j := 4) [1, 2, 3, 4, 0, 5, 6] (Nat.le_of_ble_eq_true rfl) hnL rfl rfl (fun zz254 => [(0, .ref bb), (1, .ref (ad oo1)), (2, .ref (ad oo2)), (3, .ref (ad aa3)), (4, .int zz254), (5, .int zz245), (6, .int zz249)]) (fun _ => rfl) dL_law_1762 (fun zz254 => ?_)
          refine xr_goto (pc := 1765) X 23 (by decide) dL_law_1765 ?_
          exact x_sub [0, 1, 2, 3, 4] rfl (ihh _ _ _ _ (by omega) (by omega))
        refine xr_iconst (pc := 1309) X dL_law_1309 (v := 0) (by decide) ?_
        exact xM_none
      refine xr_iconst (pc := 1292) X dL_law_1292 (v := 0) (by decide) ?_
      exact xM_none
    refine x_if (fun hcc269 => ?_) (fun hcc269 => ?_)
    · refine xr_tin (off := 1275) (pc := 39) X 1314 dL_law_39 (by rw [hcc269]; decide) (by rw [hcc269]; decide) (by rw [hcc269]; rfl) (by decide) ?_
      refine xr_aload_n (pc := 1314) X (i := 1) 1 rfl rfl dL_law_1314 ?_
      refine xr_aload_n (pc := 1315) X (i := 0) 0 rfl rfl dL_law_1315 ?_
      refine xr_iload (pc := 1316) X (i := 4) 4 rfl dL_law_1316 ?_
      refine xr_iconst (pc := 1318) X dL_law_1318 (v := 1) (by decide) ?_
      refine xr_iadd (pc := 1319) X dL_law_1319 ?_
      refine xr_sld (pc := 1320) X hSC dL_law_1320 (fun zz256 => ?_)
      refine xr_aload_n (pc := 1321) X (i := 0) 0 rfl rfl dL_law_1321 ?_
      refine xr_iload (pc := 1322) X (i := 4) 4 rfl dL_law_1322 ?_
      refine xr_iconst (pc := 1324) X dL_law_1324 (v := 2) (by decide) ?_
      refine xr_iadd (pc := 1325) X dL_law_1325 ?_
      refine xr_sld (pc := 1326) X hSC dL_law_1326 (fun zz257 => ?_)
      refine xr_aload_n (pc := 1327) X (i := 3) 3 rfl rfl dL_law_1327 ?_
      refine xr_callSWI (na := 4) (pc := 1328) X [.ref (ad oo1), .int zz256, .int zz257, .ref (ad aa3)] (c_L_ifHeld Γ.2.1 hI hst oo1 hh1 zz256 zz257 aa3 hh3 σ) (wG_SW wm_29_21 wm_29_19 wm_29_20 wm_6_14) rfl rfl rfl (by decide +kernel) ⟨Nat.le_of_ble_eq_true rfl, Nat.le_of_ble_eq_true rfl⟩ rfl rfl (Nat.le_of_ble_eq_true rfl) ⟨(show _ ≤ 601024 by omega), (show _ ≤ 7293034 by omega)⟩ dL_law_1328 (fun zz259 σ258 => ?_)
      refine xr_istore (pc := 1331) X (i := 5) [1, 2, 3, 4, 5, 0] (Nat.le_of_ble_eq_true rfl) hnL rfl dL_law_1331 ?_
      refine xr_aload_n (pc := 1333) X (i := 2) 2 rfl rfl dL_law_1333 ?_
      refine xr_aload_n (pc := 1334) X (i := 0) 0 rfl rfl dL_law_1334 ?_
      refine xr_iload (pc := 1335) X (i := 4) 4 rfl dL_law_1335 ?_
      refine xr_iconst (pc := 1337) X dL_law_1337 (v := 1) (by decide) ?_
      refine xr_iadd (pc := 1338) X dL_law_1338 ?_
      refine xr_sld (pc := 1339) X hSC dL_law_1339 (fun zz260 => ?_)
      refine xr_aload_n (pc := 1340) X (i := 0) 0 rfl rfl dL_law_1340 ?_
      refine xr_iload (pc := 1341) X (i := 4) 4 rfl dL_law_1341 ?_
      refine xr_iconst (pc := 1343) X dL_law_1343 (v := 2) (by decide) ?_
      refine xr_iadd (pc := 1344) X dL_law_1344 ?_
      refine xr_sld (pc := 1345) X hSC dL_law_1345 (fun zz261 => ?_)
      refine xr_callVI (na := 2) (pc := 1346) X (oo2) [.int zz260, .int zz261] _ (c_X6_ifHeld Γ.2.1 hI oo2 hh2 zz260 zz261 σ258) (wG_V wm_30_6 wm_30_3 wm_30_4 wm_30_5 wm_1_5) rfl rfl rfl (by decide +kernel) ⟨Nat.le_of_ble_eq_true rfl, Nat.le_of_ble_eq_true rfl⟩ hh2.1.1 hh2.1.2 rfl (T := TX6) (C := RX6) rfl rfl rfl (Nat.le_of_ble_eq_true rfl) ⟨(show _ ≤ 601024 by omega), (show _ ≤ 7293034 by omega)⟩ dL_law_1346 (fun zz263 σ262 => ?_)
      refine xr_istore (pc := 1349) X (i := 6) [1, 2, 3, 4, 5, 6, 0] (Nat.le_of_ble_eq_true rfl) hnL rfl dL_law_1349 ?_
      refine xr_aload_n (pc := 1351) X (i := 2) 2 rfl rfl dL_law_1351 ?_
      refine xr_callVI (na := 0) (pc := 1352) X (oo2) [] _ (c_X6_thrown Γ.2.1 hI oo2 hh2 σ262) (wG_V wm_8_10 wm_8_7 wm_8_8 wm_8_9 wm_1_5) rfl rfl rfl (by decide +kernel) ⟨Nat.le_of_ble_eq_true rfl, Nat.le_of_ble_eq_true rfl⟩ hh2.1.1 hh2.1.2 rfl (T := TX6) (C := RX6) rfl rfl rfl (Nat.le_of_ble_eq_true rfl) ⟨(show _ ≤ 601024 by omega), (show _ ≤ 7293034 by omega)⟩ dL_law_1352 (fun zz265 σ264 => ?_)
      refine xr_iload (pc := 1355) X (i := 5) 5 rfl dL_law_1355 ?_
      refine xr_icmp_eq (pc := 1357) X 1362 (by decide) dL_law_1357 (fun _ => ?_) (fun _ => ?_)
      · refine xr_iload (pc := 1362) X (i := 5) 5 rfl dL_law_1362 ?_
        refine xr_if_ne (pc := 1364) X 1379 (by decide) dL_law_1364 (fun _ => ?_) (fun _ => ?_)
        · refine xr_goto (pc := 1379) X 1762 (by decide) dL_law_1379 ?_
          refine xr_iinc (pc := 1762) X (i := 4) (j := 4) [1, 2, 3, 4, 0, 5, 6] (Nat.le_of_ble_eq_true rfl) hnL rfl rfl (fun zz266 => [(0, .ref bb), (1, .ref (ad oo1)), (2, .ref (ad oo2)), (3, .ref (ad aa3)), (4, .int zz266), (5, .int zz259), (6, .int zz263)]) (fun _ => rfl) dL_law_1762 (fun zz266 => ?_)
          refine xr_goto (pc := 1765) X 23 (by decide) dL_law_1765 ?_
          exact x_sub [0, 1, 2, 3, 4] rfl (ihh _ _ _ _ (by omega) (by omega))
        refine xr_aload_n (pc := 1367) X (i := 3) 3 rfl rfl dL_law_1367 ?_
        refine xr_iconst (pc := 1368) X dL_law_1368 (v := 0) (by decide) ?_
        refine xr_lald (pc := 1369) X (aa3) 1 hh3.1 hh3.2 dL_law_1369 (fun zz267 => ?_)
        refine xr_iload (pc := 1370) X (i := 6) 6 rfl dL_law_1370 ?_
        refine xr_i2l (pc := 1372) X dL_law_1372 ?_
        refine xr_lcmp (pc := 1373) X dL_law_1373 ?_
        refine xr_if_eq (pc := 1374) X 1379 (by decide) dL_law_1374 (fun _ => ?_) (fun _ => ?_)
        · refine xr_goto (pc := 1379) X 1762 (by decide) dL_law_1379 ?_
          refine xr_iinc (pc := 1762) X (i := 4) (j := 4) [1, 2, 3, 4, 0, 5, 6] (Nat.le_of_ble_eq_true rfl) hnL rfl rfl (fun zz268 => [(0, .ref bb), (1, .ref (ad oo1)), (2, .ref (ad oo2)), (3, .ref (ad aa3)), (4, .int zz268), (5, .int zz259), (6, .int zz263)]) (fun _ => rfl) dL_law_1762 (fun zz268 => ?_)
          refine xr_goto (pc := 1765) X 23 (by decide) dL_law_1765 ?_
          exact x_sub [0, 1, 2, 3, 4] rfl (ihh _ _ _ _ (by omega) (by omega))
        refine xr_iconst (pc := 1377) X dL_law_1377 (v := 0) (by decide) ?_
        exact xM_none
      refine xr_iconst (pc := 1360) X dL_law_1360 (v := 0) (by decide) ?_
      exact xM_none
    refine x_if (fun hcc283 => ?_) (fun hcc283 => ?_)
    · refine xr_tin (off := 1343) (pc := 39) X 1382 dL_law_39 (by rw [hcc283]; decide) (by rw [hcc283]; decide) (by rw [hcc283]; rfl) (by decide) ?_
      refine xr_aload_n (pc := 1382) X (i := 1) 1 rfl rfl dL_law_1382 ?_
      refine xr_aload_n (pc := 1383) X (i := 0) 0 rfl rfl dL_law_1383 ?_
      refine xr_iload (pc := 1384) X (i := 4) 4 rfl dL_law_1384 ?_
      refine xr_iconst (pc := 1386) X dL_law_1386 (v := 1) (by decide) ?_
      refine xr_iadd (pc := 1387) X dL_law_1387 ?_
      refine xr_sld (pc := 1388) X hSC dL_law_1388 (fun zz270 => ?_)
      refine xr_aload_n (pc := 1389) X (i := 0) 0 rfl rfl dL_law_1389 ?_
      refine xr_iload (pc := 1390) X (i := 4) 4 rfl dL_law_1390 ?_
      refine xr_iconst (pc := 1392) X dL_law_1392 (v := 2) (by decide) ?_
      refine xr_iadd (pc := 1393) X dL_law_1393 ?_
      refine xr_sld (pc := 1394) X hSC dL_law_1394 (fun zz271 => ?_)
      refine xr_aload_n (pc := 1395) X (i := 3) 3 rfl rfl dL_law_1395 ?_
      refine xr_callSWI (na := 4) (pc := 1396) X [.ref (ad oo1), .int zz270, .int zz271, .ref (ad aa3)] (c_L_best Γ.2.1 hI hst oo1 hh1 zz270 zz271 aa3 hh3 σ) (wG_SW wm_30_9 wm_30_7 wm_30_8 wm_6_14) rfl rfl rfl (by decide +kernel) ⟨Nat.le_of_ble_eq_true rfl, Nat.le_of_ble_eq_true rfl⟩ rfl rfl (Nat.le_of_ble_eq_true rfl) ⟨(show _ ≤ 601024 by omega), (show _ ≤ 7293034 by omega)⟩ dL_law_1396 (fun zz273 σ272 => ?_)
      refine xr_istore (pc := 1399) X (i := 5) [1, 2, 3, 4, 5, 0] (Nat.le_of_ble_eq_true rfl) hnL rfl dL_law_1399 ?_
      refine xr_aload_n (pc := 1401) X (i := 2) 2 rfl rfl dL_law_1401 ?_
      refine xr_aload_n (pc := 1402) X (i := 0) 0 rfl rfl dL_law_1402 ?_
      refine xr_iload (pc := 1403) X (i := 4) 4 rfl dL_law_1403 ?_
      refine xr_iconst (pc := 1405) X dL_law_1405 (v := 1) (by decide) ?_
      refine xr_iadd (pc := 1406) X dL_law_1406 ?_
      refine xr_sld (pc := 1407) X hSC dL_law_1407 (fun zz274 => ?_)
      refine xr_aload_n (pc := 1408) X (i := 0) 0 rfl rfl dL_law_1408 ?_
      refine xr_iload (pc := 1409) X (i := 4) 4 rfl dL_law_1409 ?_
      refine xr_iconst (pc := 1411) X dL_law_1411 (v := 2) (by decide) ?_
      refine xr_iadd (pc := 1412) X dL_law_1412 ?_
      refine xr_sld (pc := 1413) X hSC dL_law_1413 (fun zz275 => ?_)
      refine xr_callVI (na := 2) (pc := 1414) X (oo2) [.int zz274, .int zz275] _ (c_X6_best Γ.2.1 hI oo2 hh2 zz274 zz275 σ272) (wG_V wm_30_19 wm_30_16 wm_30_17 wm_30_18 wm_1_5) rfl rfl rfl (by decide +kernel) ⟨Nat.le_of_ble_eq_true rfl, Nat.le_of_ble_eq_true rfl⟩ hh2.1.1 hh2.1.2 rfl (T := TX6) (C := RX6) rfl rfl rfl (Nat.le_of_ble_eq_true rfl) ⟨(show _ ≤ 601024 by omega), (show _ ≤ 7293034 by omega)⟩ dL_law_1414 (fun zz277 σ276 => ?_)
      refine xr_istore (pc := 1417) X (i := 6) [1, 2, 3, 4, 5, 6, 0] (Nat.le_of_ble_eq_true rfl) hnL rfl dL_law_1417 ?_
      refine xr_aload_n (pc := 1419) X (i := 2) 2 rfl rfl dL_law_1419 ?_
      refine xr_callVI (na := 0) (pc := 1420) X (oo2) [] _ (c_X6_thrown Γ.2.1 hI oo2 hh2 σ276) (wG_V wm_8_10 wm_8_7 wm_8_8 wm_8_9 wm_1_5) rfl rfl rfl (by decide +kernel) ⟨Nat.le_of_ble_eq_true rfl, Nat.le_of_ble_eq_true rfl⟩ hh2.1.1 hh2.1.2 rfl (T := TX6) (C := RX6) rfl rfl rfl (Nat.le_of_ble_eq_true rfl) ⟨(show _ ≤ 601024 by omega), (show _ ≤ 7293034 by omega)⟩ dL_law_1420 (fun zz279 σ278 => ?_)
      refine xr_iload (pc := 1423) X (i := 5) 5 rfl dL_law_1423 ?_
      refine xr_icmp_eq (pc := 1425) X 1430 (by decide) dL_law_1425 (fun _ => ?_) (fun _ => ?_)
      · refine xr_iload (pc := 1430) X (i := 5) 5 rfl dL_law_1430 ?_
        refine xr_if_ne (pc := 1432) X 1447 (by decide) dL_law_1432 (fun _ => ?_) (fun _ => ?_)
        · refine xr_goto (pc := 1447) X 1762 (by decide) dL_law_1447 ?_
          refine xr_iinc (pc := 1762) X (i := 4) (j := 4) [1, 2, 3, 4, 0, 5, 6] (Nat.le_of_ble_eq_true rfl) hnL rfl rfl (fun zz280 => [(0, .ref bb), (1, .ref (ad oo1)), (2, .ref (ad oo2)), (3, .ref (ad aa3)), (4, .int zz280), (5, .int zz273), (6, .int zz277)]) (fun _ => rfl) dL_law_1762 (fun zz280 => ?_)
          refine xr_goto (pc := 1765) X 23 (by decide) dL_law_1765 ?_
          exact x_sub [0, 1, 2, 3, 4] rfl (ihh _ _ _ _ (by omega) (by omega))
        refine xr_aload_n (pc := 1435) X (i := 3) 3 rfl rfl dL_law_1435 ?_
        refine xr_iconst (pc := 1436) X dL_law_1436 (v := 0) (by decide) ?_
        refine xr_lald (pc := 1437) X (aa3) 1 hh3.1 hh3.2 dL_law_1437 (fun zz281 => ?_)
        refine xr_iload (pc := 1438) X (i := 6) 6 rfl dL_law_1438 ?_
        refine xr_i2l (pc := 1440) X dL_law_1440 ?_
        refine xr_lcmp (pc := 1441) X dL_law_1441 ?_
        refine xr_if_eq (pc := 1442) X 1447 (by decide) dL_law_1442 (fun _ => ?_) (fun _ => ?_)
        · refine xr_goto (pc := 1447) X 1762 (by decide) dL_law_1447 ?_
          refine xr_iinc (pc := 1762) X (i := 4) (j := 4) [1, 2, 3, 4, 0, 5, 6] (Nat.le_of_ble_eq_true rfl) hnL rfl rfl (fun zz282 => [(0, .ref bb), (1, .ref (ad oo1)), (2, .ref (ad oo2)), (3, .ref (ad aa3)), (4, .int zz282), (5, .int zz273), (6, .int zz277)]) (fun _ => rfl) dL_law_1762 (fun zz282 => ?_)
          refine xr_goto (pc := 1765) X 23 (by decide) dL_law_1765 ?_
          exact x_sub [0, 1, 2, 3, 4] rfl (ihh _ _ _ _ (by omega) (by omega))
        refine xr_iconst (pc := 1445) X dL_law_1445 (v := 0) (by decide) ?_
        exact xM_none
      refine xr_iconst (pc := 1428) X dL_law_1428 (v := 0) (by decide) ?_
      exact xM_none
    refine x_if (fun hcc299 => ?_) (fun hcc299 => ?_)
    · refine xr_tin (off := 1411) (pc := 39) X 1450 dL_law_39 (by rw [hcc299]; decide) (by rw [hcc299]; decide) (by rw [hcc299]; rfl) (by decide) ?_
      refine xr_aload_n (pc := 1450) X (i := 1) 1 rfl rfl dL_law_1450 ?_
      refine xr_aload_n (pc := 1451) X (i := 0) 0 rfl rfl dL_law_1451 ?_
      refine xr_iload (pc := 1452) X (i := 4) 4 rfl dL_law_1452 ?_
      refine xr_iconst (pc := 1454) X dL_law_1454 (v := 1) (by decide) ?_
      refine xr_iadd (pc := 1455) X dL_law_1455 ?_
      refine xr_sld (pc := 1456) X hSC dL_law_1456 (fun zz284 => ?_)
      refine xr_aload_n (pc := 1457) X (i := 0) 0 rfl rfl dL_law_1457 ?_
      refine xr_iload (pc := 1458) X (i := 4) 4 rfl dL_law_1458 ?_
      refine xr_iconst (pc := 1460) X dL_law_1460 (v := 2) (by decide) ?_
      refine xr_iadd (pc := 1461) X dL_law_1461 ?_
      refine xr_sld (pc := 1462) X hSC dL_law_1462 (fun zz285 => ?_)
      refine xr_i2l (pc := 1463) X dL_law_1463 ?_
      refine xr_bipush (pc := 1464) X dL_law_1464 (v := 32) (by decide) ?_
      refine xr_lshl (pc := 1466) X dL_law_1466 ?_
      refine xr_aload_n (pc := 1467) X (i := 0) 0 rfl rfl dL_law_1467 ?_
      refine xr_iload (pc := 1468) X (i := 4) 4 rfl dL_law_1468 ?_
      refine xr_iconst (pc := 1470) X dL_law_1470 (v := 3) (by decide) ?_
      refine xr_iadd (pc := 1471) X dL_law_1471 ?_
      refine xr_sld (pc := 1472) X hSC dL_law_1472 (fun zz286 => ?_)
      refine xr_i2l (pc := 1473) X dL_law_1473 ?_
      refine xr_ldc2 (pc := 1474) X dL_law_1474 (List.mem_cons_of_mem _ wm_1_7) ?_
      refine xr_land (pc := 1477) X dL_law_1477 ?_
      refine xr_lor (pc := 1478) X dL_law_1478 ?_
      refine xr_aload_n (pc := 1479) X (i := 3) 3 rfl rfl dL_law_1479 ?_
      refine xr_callSWI (na := 4) (pc := 1480) X [.ref (ad oo1), .int zz284, .long ((zz285.toInt64 <<< ((32 : Int32).toInt64 &&& 63)) ||| (zz286.toInt64 &&& 4294967295)), .ref (ad aa3)] (c_L_runScript Γ.2.1 hI hst oo1 hh1 zz284 ((zz285.toInt64 <<< ((32 : Int32).toInt64 &&& 63)) ||| (zz286.toInt64 &&& 4294967295)) aa3 hh3 σ) (wG_SW wm_30_22 wm_30_20 wm_30_21 wm_6_14) rfl rfl rfl (by decide +kernel) ⟨Nat.le_of_ble_eq_true rfl, Nat.le_of_ble_eq_true rfl⟩ rfl rfl (Nat.le_of_ble_eq_true rfl) ⟨(show _ ≤ 601024 by omega), (show _ ≤ 7293034 by omega)⟩ dL_law_1480 (fun zz288 σ287 => ?_)
      refine xr_istore (pc := 1483) X (i := 5) [1, 2, 3, 4, 5, 0] (Nat.le_of_ble_eq_true rfl) hnL rfl dL_law_1483 ?_
      refine xr_aload_n (pc := 1485) X (i := 2) 2 rfl rfl dL_law_1485 ?_
      refine xr_aload_n (pc := 1486) X (i := 0) 0 rfl rfl dL_law_1486 ?_
      refine xr_iload (pc := 1487) X (i := 4) 4 rfl dL_law_1487 ?_
      refine xr_iconst (pc := 1489) X dL_law_1489 (v := 1) (by decide) ?_
      refine xr_iadd (pc := 1490) X dL_law_1490 ?_
      refine xr_sld (pc := 1491) X hSC dL_law_1491 (fun zz289 => ?_)
      refine xr_aload_n (pc := 1492) X (i := 0) 0 rfl rfl dL_law_1492 ?_
      refine xr_iload (pc := 1493) X (i := 4) 4 rfl dL_law_1493 ?_
      refine xr_iconst (pc := 1495) X dL_law_1495 (v := 2) (by decide) ?_
      refine xr_iadd (pc := 1496) X dL_law_1496 ?_
      refine xr_sld (pc := 1497) X hSC dL_law_1497 (fun zz290 => ?_)
      refine xr_i2l (pc := 1498) X dL_law_1498 ?_
      refine xr_bipush (pc := 1499) X dL_law_1499 (v := 32) (by decide) ?_
      refine xr_lshl (pc := 1501) X dL_law_1501 ?_
      refine xr_aload_n (pc := 1502) X (i := 0) 0 rfl rfl dL_law_1502 ?_
      refine xr_iload (pc := 1503) X (i := 4) 4 rfl dL_law_1503 ?_
      refine xr_iconst (pc := 1505) X dL_law_1505 (v := 3) (by decide) ?_
      refine xr_iadd (pc := 1506) X dL_law_1506 ?_
      refine xr_sld (pc := 1507) X hSC dL_law_1507 (fun zz291 => ?_)
      refine xr_i2l (pc := 1508) X dL_law_1508 ?_
      refine xr_ldc2 (pc := 1509) X dL_law_1509 (List.mem_cons_of_mem _ wm_1_7) ?_
      refine xr_land (pc := 1512) X dL_law_1512 ?_
      refine xr_lor (pc := 1513) X dL_law_1513 ?_
      refine xr_callVI (na := 2) (pc := 1514) X (oo2) [.int zz289, .long ((zz290.toInt64 <<< ((32 : Int32).toInt64 &&& 63)) ||| (zz291.toInt64 &&& 4294967295))] _ (c_X6_runScript Γ.2.1 hI oo2 hh2 zz289 ((zz290.toInt64 <<< ((32 : Int32).toInt64 &&& 63)) ||| (zz291.toInt64 &&& 4294967295)) σ287) (wG_V wm_31_12 wm_31_9 wm_31_10 wm_31_11 wm_1_5) rfl rfl rfl (by decide +kernel) ⟨Nat.le_of_ble_eq_true rfl, Nat.le_of_ble_eq_true rfl⟩ hh2.1.1 hh2.1.2 rfl (T := TX6) (C := RX6) rfl rfl rfl (Nat.le_of_ble_eq_true rfl) ⟨(show _ ≤ 601024 by omega), (show _ ≤ 7293034 by omega)⟩ dL_law_1514 (fun zz293 σ292 => ?_)
      refine xr_istore (pc := 1517) X (i := 6) [1, 2, 3, 4, 5, 6, 0] (Nat.le_of_ble_eq_true rfl) hnL rfl dL_law_1517 ?_
      refine xr_aload_n (pc := 1519) X (i := 2) 2 rfl rfl dL_law_1519 ?_
      refine xr_callVI (na := 0) (pc := 1520) X (oo2) [] _ (c_X6_thrown Γ.2.1 hI oo2 hh2 σ292) (wG_V wm_8_10 wm_8_7 wm_8_8 wm_8_9 wm_1_5) rfl rfl rfl (by decide +kernel) ⟨Nat.le_of_ble_eq_true rfl, Nat.le_of_ble_eq_true rfl⟩ hh2.1.1 hh2.1.2 rfl (T := TX6) (C := RX6) rfl rfl rfl (Nat.le_of_ble_eq_true rfl) ⟨(show _ ≤ 601024 by omega), (show _ ≤ 7293034 by omega)⟩ dL_law_1520 (fun zz295 σ294 => ?_)
      refine xr_iload (pc := 1523) X (i := 5) 5 rfl dL_law_1523 ?_
      refine xr_icmp_eq (pc := 1525) X 1530 (by decide) dL_law_1525 (fun _ => ?_) (fun _ => ?_)
      · refine xr_iload (pc := 1530) X (i := 5) 5 rfl dL_law_1530 ?_
        refine xr_if_ne (pc := 1532) X 1547 (by decide) dL_law_1532 (fun _ => ?_) (fun _ => ?_)
        · refine xr_goto (pc := 1547) X 1762 (by decide) dL_law_1547 ?_
          refine xr_iinc (pc := 1762) X (i := 4) (j := 4) [1, 2, 3, 4, 0, 5, 6] (Nat.le_of_ble_eq_true rfl) hnL rfl rfl (fun zz296 => [(0, .ref bb), (1, .ref (ad oo1)), (2, .ref (ad oo2)), (3, .ref (ad aa3)), (4, .int zz296), (5, .int zz288), (6, .int zz293)]) (fun _ => rfl) dL_law_1762 (fun zz296 => ?_)
          refine xr_goto (pc := 1765) X 23 (by decide) dL_law_1765 ?_
          exact x_sub [0, 1, 2, 3, 4] rfl (ihh _ _ _ _ (by omega) (by omega))
        refine xr_aload_n (pc := 1535) X (i := 3) 3 rfl rfl dL_law_1535 ?_
        refine xr_iconst (pc := 1536) X dL_law_1536 (v := 0) (by decide) ?_
        refine xr_lald (pc := 1537) X (aa3) 1 hh3.1 hh3.2 dL_law_1537 (fun zz297 => ?_)
        refine xr_iload (pc := 1538) X (i := 6) 6 rfl dL_law_1538 ?_
        refine xr_i2l (pc := 1540) X dL_law_1540 ?_
        refine xr_lcmp (pc := 1541) X dL_law_1541 ?_
        refine xr_if_eq (pc := 1542) X 1547 (by decide) dL_law_1542 (fun _ => ?_) (fun _ => ?_)
        · refine xr_goto (pc := 1547) X 1762 (by decide) dL_law_1547 ?_
          refine xr_iinc (pc := 1762) X (i := 4) (j := 4) [1, 2, 3, 4, 0, 5, 6] (Nat.le_of_ble_eq_true rfl) hnL rfl rfl (fun zz298 => [(0, .ref bb), (1, .ref (ad oo1)), (2, .ref (ad oo2)), (3, .ref (ad aa3)), (4, .int zz298), (5, .int zz288), (6, .int zz293)]) (fun _ => rfl) dL_law_1762 (fun zz298 => ?_)
          refine xr_goto (pc := 1765) X 23 (by decide) dL_law_1765 ?_
          exact x_sub [0, 1, 2, 3, 4] rfl (ihh _ _ _ _ (by omega) (by omega))
        refine xr_iconst (pc := 1545) X dL_law_1545 (v := 0) (by decide) ?_
        exact xM_none
      refine xr_iconst (pc := 1528) X dL_law_1528 (v := 0) (by decide) ?_
      exact xM_none
    refine x_if (fun hcc315 => ?_) (fun hcc315 => ?_)
    · refine xr_tin (off := 1511) (pc := 39) X 1550 dL_law_39 (by rw [hcc315]; decide) (by rw [hcc315]; decide) (by rw [hcc315]; rfl) (by decide) ?_
      refine xr_aload_n (pc := 1550) X (i := 1) 1 rfl rfl dL_law_1550 ?_
      refine xr_aload_n (pc := 1551) X (i := 0) 0 rfl rfl dL_law_1551 ?_
      refine xr_iload (pc := 1552) X (i := 4) 4 rfl dL_law_1552 ?_
      refine xr_iconst (pc := 1554) X dL_law_1554 (v := 1) (by decide) ?_
      refine xr_iadd (pc := 1555) X dL_law_1555 ?_
      refine xr_sld (pc := 1556) X hSC dL_law_1556 (fun zz300 => ?_)
      refine xr_i2l (pc := 1557) X dL_law_1557 ?_
      refine xr_bipush (pc := 1558) X dL_law_1558 (v := 32) (by decide) ?_
      refine xr_lshl (pc := 1560) X dL_law_1560 ?_
      refine xr_aload_n (pc := 1561) X (i := 0) 0 rfl rfl dL_law_1561 ?_
      refine xr_iload (pc := 1562) X (i := 4) 4 rfl dL_law_1562 ?_
      refine xr_iconst (pc := 1564) X dL_law_1564 (v := 2) (by decide) ?_
      refine xr_iadd (pc := 1565) X dL_law_1565 ?_
      refine xr_sld (pc := 1566) X hSC dL_law_1566 (fun zz301 => ?_)
      refine xr_i2l (pc := 1567) X dL_law_1567 ?_
      refine xr_ldc2 (pc := 1568) X dL_law_1568 (List.mem_cons_of_mem _ wm_1_7) ?_
      refine xr_land (pc := 1571) X dL_law_1571 ?_
      refine xr_lor (pc := 1572) X dL_law_1572 ?_
      refine xr_aload_n (pc := 1573) X (i := 0) 0 rfl rfl dL_law_1573 ?_
      refine xr_iload (pc := 1574) X (i := 4) 4 rfl dL_law_1574 ?_
      refine xr_iconst (pc := 1576) X dL_law_1576 (v := 3) (by decide) ?_
      refine xr_iadd (pc := 1577) X dL_law_1577 ?_
      refine xr_sld (pc := 1578) X hSC dL_law_1578 (fun zz302 => ?_)
      refine xr_aload_n (pc := 1579) X (i := 3) 3 rfl rfl dL_law_1579 ?_
      refine xr_callSWI (na := 4) (pc := 1580) X [.ref (ad oo1), .long ((zz300.toInt64 <<< ((32 : Int32).toInt64 &&& 63)) ||| (zz301.toInt64 &&& 4294967295)), .int zz302, .ref (ad aa3)] (c_L_simulate Γ.2.1 hI hst oo1 hh1 ((zz300.toInt64 <<< ((32 : Int32).toInt64 &&& 63)) ||| (zz301.toInt64 &&& 4294967295)) zz302 aa3 hh3 σ) (wG_SW wm_32_4 wm_32_2 wm_32_3 wm_6_14) rfl rfl rfl (by decide +kernel) ⟨Nat.le_of_ble_eq_true rfl, Nat.le_of_ble_eq_true rfl⟩ rfl rfl (Nat.le_of_ble_eq_true rfl) ⟨(show _ ≤ 601024 by omega), (show _ ≤ 7293034 by omega)⟩ dL_law_1580 (fun zz304 σ303 => ?_)
      refine xr_istore (pc := 1583) X (i := 5) [1, 2, 3, 4, 5, 0] (Nat.le_of_ble_eq_true rfl) hnL rfl dL_law_1583 ?_
      refine xr_aload_n (pc := 1585) X (i := 2) 2 rfl rfl dL_law_1585 ?_
      refine xr_aload_n (pc := 1586) X (i := 0) 0 rfl rfl dL_law_1586 ?_
      refine xr_iload (pc := 1587) X (i := 4) 4 rfl dL_law_1587 ?_
      refine xr_iconst (pc := 1589) X dL_law_1589 (v := 1) (by decide) ?_
      refine xr_iadd (pc := 1590) X dL_law_1590 ?_
      refine xr_sld (pc := 1591) X hSC dL_law_1591 (fun zz305 => ?_)
      refine xr_i2l (pc := 1592) X dL_law_1592 ?_
      refine xr_bipush (pc := 1593) X dL_law_1593 (v := 32) (by decide) ?_
      refine xr_lshl (pc := 1595) X dL_law_1595 ?_
      refine xr_aload_n (pc := 1596) X (i := 0) 0 rfl rfl dL_law_1596 ?_
      refine xr_iload (pc := 1597) X (i := 4) 4 rfl dL_law_1597 ?_
      refine xr_iconst (pc := 1599) X dL_law_1599 (v := 2) (by decide) ?_
      refine xr_iadd (pc := 1600) X dL_law_1600 ?_
      refine xr_sld (pc := 1601) X hSC dL_law_1601 (fun zz306 => ?_)
      refine xr_i2l (pc := 1602) X dL_law_1602 ?_
      refine xr_ldc2 (pc := 1603) X dL_law_1603 (List.mem_cons_of_mem _ wm_1_7) ?_
      refine xr_land (pc := 1606) X dL_law_1606 ?_
      refine xr_lor (pc := 1607) X dL_law_1607 ?_
      refine xr_aload_n (pc := 1608) X (i := 0) 0 rfl rfl dL_law_1608 ?_
      refine xr_iload (pc := 1609) X (i := 4) 4 rfl dL_law_1609 ?_
      refine xr_iconst (pc := 1611) X dL_law_1611 (v := 3) (by decide) ?_
      refine xr_iadd (pc := 1612) X dL_law_1612 ?_
      refine xr_sld (pc := 1613) X hSC dL_law_1613 (fun zz307 => ?_)
      refine xr_callVI (na := 2) (pc := 1614) X (oo2) [.long ((zz305.toInt64 <<< ((32 : Int32).toInt64 &&& 63)) ||| (zz306.toInt64 &&& 4294967295)), .int zz307] _ (c_X6_simulate Γ.2.1 hI oo2 hh2 ((zz305.toInt64 <<< ((32 : Int32).toInt64 &&& 63)) ||| (zz306.toInt64 &&& 4294967295)) zz307 σ303) (wG_V wm_32_18 wm_32_15 wm_32_16 wm_32_17 wm_1_5) rfl rfl rfl (by decide +kernel) ⟨Nat.le_of_ble_eq_true rfl, Nat.le_of_ble_eq_true rfl⟩ hh2.1.1 hh2.1.2 rfl (T := TX6) (C := RX6) rfl rfl rfl (Nat.le_of_ble_eq_true rfl) ⟨(show _ ≤ 601024 by omega), (show _ ≤ 7293034 by omega)⟩ dL_law_1614 (fun zz309 σ308 => ?_)
      refine xr_istore (pc := 1617) X (i := 6) [1, 2, 3, 4, 5, 6, 0] (Nat.le_of_ble_eq_true rfl) hnL rfl dL_law_1617 ?_
      refine xr_aload_n (pc := 1619) X (i := 2) 2 rfl rfl dL_law_1619 ?_
      refine xr_callVI (na := 0) (pc := 1620) X (oo2) [] _ (c_X6_thrown Γ.2.1 hI oo2 hh2 σ308) (wG_V wm_8_10 wm_8_7 wm_8_8 wm_8_9 wm_1_5) rfl rfl rfl (by decide +kernel) ⟨Nat.le_of_ble_eq_true rfl, Nat.le_of_ble_eq_true rfl⟩ hh2.1.1 hh2.1.2 rfl (T := TX6) (C := RX6) rfl rfl rfl (Nat.le_of_ble_eq_true rfl) ⟨(show _ ≤ 601024 by omega), (show _ ≤ 7293034 by omega)⟩ dL_law_1620 (fun zz311 σ310 => ?_)
      refine xr_iload (pc := 1623) X (i := 5) 5 rfl dL_law_1623 ?_
      refine xr_icmp_eq (pc := 1625) X 1630 (by decide) dL_law_1625 (fun _ => ?_) (fun _ => ?_)
      · refine xr_iload (pc := 1630) X (i := 5) 5 rfl dL_law_1630 ?_
        refine xr_if_ne (pc := 1632) X 1647 (by decide) dL_law_1632 (fun _ => ?_) (fun _ => ?_)
        · refine xr_goto (pc := 1647) X 1762 (by decide) dL_law_1647 ?_
          refine xr_iinc (pc := 1762) X (i := 4) (j := 4) [1, 2, 3, 4, 0, 5, 6] (Nat.le_of_ble_eq_true rfl) hnL rfl rfl (fun zz312 => [(0, .ref bb), (1, .ref (ad oo1)), (2, .ref (ad oo2)), (3, .ref (ad aa3)), (4, .int zz312), (5, .int zz304), (6, .int zz309)]) (fun _ => rfl) dL_law_1762 (fun zz312 => ?_)
          refine xr_goto (pc := 1765) X 23 (by decide) dL_law_1765 ?_
          exact x_sub [0, 1, 2, 3, 4] rfl (ihh _ _ _ _ (by omega) (by omega))
        refine xr_aload_n (pc := 1635) X (i := 3) 3 rfl rfl dL_law_1635 ?_
        refine xr_iconst (pc := 1636) X dL_law_1636 (v := 0) (by decide) ?_
        refine xr_lald (pc := 1637) X (aa3) 1 hh3.1 hh3.2 dL_law_1637 (fun zz313 => ?_)
        refine xr_iload (pc := 1638) X (i := 6) 6 rfl dL_law_1638 ?_
        refine xr_i2l (pc := 1640) X dL_law_1640 ?_
        refine xr_lcmp (pc := 1641) X dL_law_1641 ?_
        refine xr_if_eq (pc := 1642) X 1647 (by decide) dL_law_1642 (fun _ => ?_) (fun _ => ?_)
        · refine xr_goto (pc := 1647) X 1762 (by decide) dL_law_1647 ?_
          refine xr_iinc (pc := 1762) X (i := 4) (j := 4) [1, 2, 3, 4, 0, 5, 6] (Nat.le_of_ble_eq_true rfl) hnL rfl rfl (fun zz314 => [(0, .ref bb), (1, .ref (ad oo1)), (2, .ref (ad oo2)), (3, .ref (ad aa3)), (4, .int zz314), (5, .int zz304), (6, .int zz309)]) (fun _ => rfl) dL_law_1762 (fun zz314 => ?_)
          refine xr_goto (pc := 1765) X 23 (by decide) dL_law_1765 ?_
          exact x_sub [0, 1, 2, 3, 4] rfl (ihh _ _ _ _ (by omega) (by omega))
        refine xr_iconst (pc := 1645) X dL_law_1645 (v := 0) (by decide) ?_
        exact xM_none
      refine xr_iconst (pc := 1628) X dL_law_1628 (v := 0) (by decide) ?_
      exact xM_none
    refine x_if (fun hcc327 => ?_) (fun hcc327 => ?_)
    · refine xr_tin (off := 1611) (pc := 39) X 1650 dL_law_39 (by rw [hcc327]; decide) (by rw [hcc327]; decide) (by rw [hcc327]; rfl) (by decide) ?_
      refine xr_aload_n (pc := 1650) X (i := 1) 1 rfl rfl dL_law_1650 ?_
      refine xr_aload_n (pc := 1651) X (i := 0) 0 rfl rfl dL_law_1651 ?_
      refine xr_iload (pc := 1652) X (i := 4) 4 rfl dL_law_1652 ?_
      refine xr_iconst (pc := 1654) X dL_law_1654 (v := 1) (by decide) ?_
      refine xr_iadd (pc := 1655) X dL_law_1655 ?_
      refine xr_sld (pc := 1656) X hSC dL_law_1656 (fun zz316 => ?_)
      refine xr_aload_n (pc := 1657) X (i := 3) 3 rfl rfl dL_law_1657 ?_
      refine xr_callSWI (na := 3) (pc := 1658) X [.ref (ad oo1), .int zz316, .ref (ad aa3)] (c_L_save Γ.2.1 hI hst oo1 hh1 zz316 aa3 hh3 σ) (wG_SW wm_33_4 wm_33_2 wm_33_3 wm_6_14) rfl rfl rfl (by decide +kernel) ⟨Nat.le_of_ble_eq_true rfl, Nat.le_of_ble_eq_true rfl⟩ rfl rfl (Nat.le_of_ble_eq_true rfl) ⟨(show _ ≤ 601024 by omega), (show _ ≤ 7293034 by omega)⟩ dL_law_1658 (fun zz318 σ317 => ?_)
      refine xr_istore (pc := 1661) X (i := 5) [1, 2, 3, 4, 5, 0] (Nat.le_of_ble_eq_true rfl) hnL rfl dL_law_1661 ?_
      refine xr_aload_n (pc := 1663) X (i := 2) 2 rfl rfl dL_law_1663 ?_
      refine xr_aload_n (pc := 1664) X (i := 0) 0 rfl rfl dL_law_1664 ?_
      refine xr_iload (pc := 1665) X (i := 4) 4 rfl dL_law_1665 ?_
      refine xr_iconst (pc := 1667) X dL_law_1667 (v := 1) (by decide) ?_
      refine xr_iadd (pc := 1668) X dL_law_1668 ?_
      refine xr_sld (pc := 1669) X hSC dL_law_1669 (fun zz319 => ?_)
      refine xr_callVI (na := 1) (pc := 1670) X (oo2) [.int zz319] _ (c_X6_save Γ.2.1 hI oo2 hh2 zz319 σ317) (wG_V wm_33_12 wm_33_9 wm_33_10 wm_33_11 wm_1_5) rfl rfl rfl (by decide +kernel) ⟨Nat.le_of_ble_eq_true rfl, Nat.le_of_ble_eq_true rfl⟩ hh2.1.1 hh2.1.2 rfl (T := TX6) (C := RX6) rfl rfl rfl (Nat.le_of_ble_eq_true rfl) ⟨(show _ ≤ 601024 by omega), (show _ ≤ 7293034 by omega)⟩ dL_law_1670 (fun zz321 σ320 => ?_)
      refine xr_istore (pc := 1673) X (i := 6) [1, 2, 3, 4, 5, 6, 0] (Nat.le_of_ble_eq_true rfl) hnL rfl dL_law_1673 ?_
      refine xr_aload_n (pc := 1675) X (i := 2) 2 rfl rfl dL_law_1675 ?_
      refine xr_callVI (na := 0) (pc := 1676) X (oo2) [] _ (c_X6_thrown Γ.2.1 hI oo2 hh2 σ320) (wG_V wm_8_10 wm_8_7 wm_8_8 wm_8_9 wm_1_5) rfl rfl rfl (by decide +kernel) ⟨Nat.le_of_ble_eq_true rfl, Nat.le_of_ble_eq_true rfl⟩ hh2.1.1 hh2.1.2 rfl (T := TX6) (C := RX6) rfl rfl rfl (Nat.le_of_ble_eq_true rfl) ⟨(show _ ≤ 601024 by omega), (show _ ≤ 7293034 by omega)⟩ dL_law_1676 (fun zz323 σ322 => ?_)
      refine xr_iload (pc := 1679) X (i := 5) 5 rfl dL_law_1679 ?_
      refine xr_icmp_eq (pc := 1681) X 1686 (by decide) dL_law_1681 (fun _ => ?_) (fun _ => ?_)
      · refine xr_iload (pc := 1686) X (i := 5) 5 rfl dL_law_1686 ?_
        refine xr_if_ne (pc := 1688) X 1703 (by decide) dL_law_1688 (fun _ => ?_) (fun _ => ?_)
        · refine xr_goto (pc := 1703) X 1762 (by decide) dL_law_1703 ?_
          refine xr_iinc (pc := 1762) X (i := 4) (j := 4) [1, 2, 3, 4, 0, 5, 6] (Nat.le_of_ble_eq_true rfl) hnL rfl rfl (fun zz324 => [(0, .ref bb), (1, .ref (ad oo1)), (2, .ref (ad oo2)), (3, .ref (ad aa3)), (4, .int zz324), (5, .int zz318), (6, .int zz321)]) (fun _ => rfl) dL_law_1762 (fun zz324 => ?_)
          refine xr_goto (pc := 1765) X 23 (by decide) dL_law_1765 ?_
          exact x_sub [0, 1, 2, 3, 4] rfl (ihh _ _ _ _ (by omega) (by omega))
        refine xr_aload_n (pc := 1691) X (i := 3) 3 rfl rfl dL_law_1691 ?_
        refine xr_iconst (pc := 1692) X dL_law_1692 (v := 0) (by decide) ?_
        refine xr_lald (pc := 1693) X (aa3) 1 hh3.1 hh3.2 dL_law_1693 (fun zz325 => ?_)
        refine xr_iload (pc := 1694) X (i := 6) 6 rfl dL_law_1694 ?_
        refine xr_i2l (pc := 1696) X dL_law_1696 ?_
        refine xr_lcmp (pc := 1697) X dL_law_1697 ?_
        refine xr_if_eq (pc := 1698) X 1703 (by decide) dL_law_1698 (fun _ => ?_) (fun _ => ?_)
        · refine xr_goto (pc := 1703) X 1762 (by decide) dL_law_1703 ?_
          refine xr_iinc (pc := 1762) X (i := 4) (j := 4) [1, 2, 3, 4, 0, 5, 6] (Nat.le_of_ble_eq_true rfl) hnL rfl rfl (fun zz326 => [(0, .ref bb), (1, .ref (ad oo1)), (2, .ref (ad oo2)), (3, .ref (ad aa3)), (4, .int zz326), (5, .int zz318), (6, .int zz321)]) (fun _ => rfl) dL_law_1762 (fun zz326 => ?_)
          refine xr_goto (pc := 1765) X 23 (by decide) dL_law_1765 ?_
          exact x_sub [0, 1, 2, 3, 4] rfl (ihh _ _ _ _ (by omega) (by omega))
        refine xr_iconst (pc := 1701) X dL_law_1701 (v := 0) (by decide) ?_
        exact xM_none
      refine xr_iconst (pc := 1684) X dL_law_1684 (v := 0) (by decide) ?_
      exact xM_none
    refine x_if (fun hcc339 => ?_) (fun hcc339 => ?_)
    · refine xr_tin (off := 1667) (pc := 39) X 1706 dL_law_39 (by rw [hcc339]; decide) (by rw [hcc339]; decide) (by rw [hcc339]; rfl) (by decide) ?_
      refine xr_aload_n (pc := 1706) X (i := 1) 1 rfl rfl dL_law_1706 ?_
      refine xr_aload_n (pc := 1707) X (i := 0) 0 rfl rfl dL_law_1707 ?_
      refine xr_iload (pc := 1708) X (i := 4) 4 rfl dL_law_1708 ?_
      refine xr_iconst (pc := 1710) X dL_law_1710 (v := 1) (by decide) ?_
      refine xr_iadd (pc := 1711) X dL_law_1711 ?_
      refine xr_sld (pc := 1712) X hSC dL_law_1712 (fun zz328 => ?_)
      refine xr_aload_n (pc := 1713) X (i := 3) 3 rfl rfl dL_law_1713 ?_
      refine xr_callSWI (na := 3) (pc := 1714) X [.ref (ad oo1), .int zz328, .ref (ad aa3)] (c_L_restore Γ.2.1 hI hst oo1 hh1 zz328 aa3 hh3 σ) (wG_SW wm_33_15 wm_33_13 wm_33_14 wm_6_14) rfl rfl rfl (by decide +kernel) ⟨Nat.le_of_ble_eq_true rfl, Nat.le_of_ble_eq_true rfl⟩ rfl rfl (Nat.le_of_ble_eq_true rfl) ⟨(show _ ≤ 601024 by omega), (show _ ≤ 7293034 by omega)⟩ dL_law_1714 (fun zz330 σ329 => ?_)
      refine xr_istore (pc := 1717) X (i := 5) [1, 2, 3, 4, 5, 0] (Nat.le_of_ble_eq_true rfl) hnL rfl dL_law_1717 ?_
      refine xr_aload_n (pc := 1719) X (i := 2) 2 rfl rfl dL_law_1719 ?_
      refine xr_aload_n (pc := 1720) X (i := 0) 0 rfl rfl dL_law_1720 ?_
      refine xr_iload (pc := 1721) X (i := 4) 4 rfl dL_law_1721 ?_
      refine xr_iconst (pc := 1723) X dL_law_1723 (v := 1) (by decide) ?_
      refine xr_iadd (pc := 1724) X dL_law_1724 ?_
      refine xr_sld (pc := 1725) X hSC dL_law_1725 (fun zz331 => ?_)
      refine xr_callVI (na := 1) (pc := 1726) X (oo2) [.int zz331] _ (c_X6_restore Γ.2.1 hI oo2 hh2 zz331 σ329) (wG_V wm_33_23 wm_33_20 wm_33_21 wm_33_22 wm_1_5) rfl rfl rfl (by decide +kernel) ⟨Nat.le_of_ble_eq_true rfl, Nat.le_of_ble_eq_true rfl⟩ hh2.1.1 hh2.1.2 rfl (T := TX6) (C := RX6) rfl rfl rfl (Nat.le_of_ble_eq_true rfl) ⟨(show _ ≤ 601024 by omega), (show _ ≤ 7293034 by omega)⟩ dL_law_1726 (fun zz333 σ332 => ?_)
      refine xr_istore (pc := 1729) X (i := 6) [1, 2, 3, 4, 5, 6, 0] (Nat.le_of_ble_eq_true rfl) hnL rfl dL_law_1729 ?_
      refine xr_aload_n (pc := 1731) X (i := 2) 2 rfl rfl dL_law_1731 ?_
      refine xr_callVI (na := 0) (pc := 1732) X (oo2) [] _ (c_X6_thrown Γ.2.1 hI oo2 hh2 σ332) (wG_V wm_8_10 wm_8_7 wm_8_8 wm_8_9 wm_1_5) rfl rfl rfl (by decide +kernel) ⟨Nat.le_of_ble_eq_true rfl, Nat.le_of_ble_eq_true rfl⟩ hh2.1.1 hh2.1.2 rfl (T := TX6) (C := RX6) rfl rfl rfl (Nat.le_of_ble_eq_true rfl) ⟨(show _ ≤ 601024 by omega), (show _ ≤ 7293034 by omega)⟩ dL_law_1732 (fun zz335 σ334 => ?_)
      refine xr_iload (pc := 1735) X (i := 5) 5 rfl dL_law_1735 ?_
      refine xr_icmp_eq (pc := 1737) X 1742 (by decide) dL_law_1737 (fun _ => ?_) (fun _ => ?_)
      · refine xr_iload (pc := 1742) X (i := 5) 5 rfl dL_law_1742 ?_
        refine xr_if_ne (pc := 1744) X 1759 (by decide) dL_law_1744 (fun _ => ?_) (fun _ => ?_)
        · refine xr_goto (pc := 1759) X 1762 (by decide) dL_law_1759 ?_
          refine xr_iinc (pc := 1762) X (i := 4) (j := 4) [1, 2, 3, 4, 0, 5, 6] (Nat.le_of_ble_eq_true rfl) hnL rfl rfl (fun zz336 => [(0, .ref bb), (1, .ref (ad oo1)), (2, .ref (ad oo2)), (3, .ref (ad aa3)), (4, .int zz336), (5, .int zz330), (6, .int zz333)]) (fun _ => rfl) dL_law_1762 (fun zz336 => ?_)
          refine xr_goto (pc := 1765) X 23 (by decide) dL_law_1765 ?_
          exact x_sub [0, 1, 2, 3, 4] rfl (ihh _ _ _ _ (by omega) (by omega))
        refine xr_aload_n (pc := 1747) X (i := 3) 3 rfl rfl dL_law_1747 ?_
        refine xr_iconst (pc := 1748) X dL_law_1748 (v := 0) (by decide) ?_
        refine xr_lald (pc := 1749) X (aa3) 1 hh3.1 hh3.2 dL_law_1749 (fun zz337 => ?_)
        refine xr_iload (pc := 1750) X (i := 6) 6 rfl dL_law_1750 ?_
        refine xr_i2l (pc := 1752) X dL_law_1752 ?_
        refine xr_lcmp (pc := 1753) X dL_law_1753 ?_
        refine xr_if_eq (pc := 1754) X 1759 (by decide) dL_law_1754 (fun _ => ?_) (fun _ => ?_)
        · refine xr_goto (pc := 1759) X 1762 (by decide) dL_law_1759 ?_
          refine xr_iinc (pc := 1762) X (i := 4) (j := 4) [1, 2, 3, 4, 0, 5, 6] (Nat.le_of_ble_eq_true rfl) hnL rfl rfl (fun zz338 => [(0, .ref bb), (1, .ref (ad oo1)), (2, .ref (ad oo2)), (3, .ref (ad aa3)), (4, .int zz338), (5, .int zz330), (6, .int zz333)]) (fun _ => rfl) dL_law_1762 (fun zz338 => ?_)
          refine xr_goto (pc := 1765) X 23 (by decide) dL_law_1765 ?_
          exact x_sub [0, 1, 2, 3, 4] rfl (ihh _ _ _ _ (by omega) (by omega))
        refine xr_iconst (pc := 1757) X dL_law_1757 (v := 0) (by decide) ?_
        exact xM_none
      refine xr_iconst (pc := 1740) X dL_law_1740 (v := 0) (by decide) ?_
      exact xM_none
    refine xr_tout (pc := 39) X 1762 dL_law_39 (by have g0 := xne hcc13 (j := 0) (by decide); have g1 := xne hcc19 (j := 1) (by decide); have g2 := xne hcc25 (j := 2) (by decide); have g3 := xne hcc35 (j := 3) (by decide); have g4 := xne hcc47 (j := 4) (by decide); have g5 := xne hcc61 (j := 5) (by decide); have g6 := xne hcc75 (j := 6) (by decide); have g7 := xne hcc91 (j := 7) (by decide); have g8 := xne hcc105 (j := 8) (by decide); have g9 := xne hcc117 (j := 9) (by decide); have g10 := xne hcc129 (j := 10) (by decide); have g11 := xne hcc143 (j := 11) (by decide); have g12 := xne hcc159 (j := 12) (by decide); have g13 := xne hcc181 (j := 13) (by decide); have g14 := xne hcc193 (j := 14) (by decide); have g15 := xne hcc205 (j := 15) (by decide); have g16 := xne hcc219 (j := 16) (by decide); have g17 := xne hcc229 (j := 17) (by decide); have g18 := xne hcc241 (j := 18) (by decide); have g19 := xne hcc255 (j := 19) (by decide); have g20 := xne hcc269 (j := 20) (by decide); have g21 := xne hcc283 (j := 21) (by decide); have g22 := xne hcc299 (j := 22) (by decide); have g23 := xne hcc315 (j := 23) (by decide); have g24 := xne hcc327 (j := 24) (by decide); have g25 := xne hcc339 (j := 25) (by decide); omega) (by decide) ?_
    refine xr_iinc (pc := 1762) X (i := 4) (j := 4) [1, 2, 3, 4, 0] (Nat.le_of_ble_eq_true rfl) hnL rfl rfl (fun zz340 => [(0, .ref bb), (1, .ref (ad oo1)), (2, .ref (ad oo2)), (3, .ref (ad aa3)), (4, .int zz340)]) (fun _ => rfl) dL_law_1762 (fun zz340 => ?_)
    refine xr_goto (pc := 1765) X 23 (by decide) dL_law_1765 ?_
    exact ihh _ _ _ _ (by omega) (by omega)
