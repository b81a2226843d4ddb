/-! ===== the law ===== -/
def F_L_law_L23 (c0 : Nat) (c1 : Nat) (c2 : Nat) (c3 : Nat) (k1569 : PM → Option (Int32 × PM)) (k1561 : PM → Option (Int32 × PM)) (k1536 : PM → Option (Int32 × PM)) (k1520 : PM → Option (Int32 × PM)) (k1503 : PM → Option (Int32 × PM)) (k1452 : PM → Option (Int32 × PM)) (k1435 : PM → Option (Int32 × PM)) (k1372 : PM → Option (Int32 × PM)) (k1355 : PM → Option (Int32 × PM)) (k1307 : PM → Option (Int32 × PM)) (k1291 : PM → Option (Int32 × PM)) (k1274 : PM → Option (Int32 × PM)) (k1223 : PM → Option (Int32 × PM)) (k1206 : PM → Option (Int32 × PM)) (k1167 : PM → Option (Int32 × PM)) (k1150 : PM → Option (Int32 × PM)) (k1099 : PM → Option (Int32 × PM)) (k1082 : PM → Option (Int32 × PM)) (k1043 : PM → Option (Int32 × PM)) (k1026 : PM → Option (Int32 × PM)) (k963 : PM → Option (Int32 × PM)) (k946 : PM → Option (Int32 × PM)) (k907 : PM → Option (Int32 × PM)) (k890 : PM → Option (Int32 × PM)) (k827 : PM → Option (Int32 × PM)) (k810 : PM → Option (Int32 × PM)) (k759 : PM → Option (Int32 × PM)) (k742 : PM → Option (Int32 × PM)) (k703 : PM → Option (Int32 × PM)) (k686 : PM → Option (Int32 × PM)) (k623 : PM → Option (Int32 × PM)) (k606 : PM → Option (Int32 × PM)) (k567 : PM → Option (Int32 × PM)) (k550 : PM → Option (Int32 × PM)) (k499 : PM → Option (Int32 × PM)) (k482 : PM → Option (Int32 × PM)) (k446 : PM → Option (Int32 × PM)) (k370 : PM → Option (Int32 × PM)) (k353 : PM → Option (Int32 × PM)) (k314 : PM → Option (Int32 × PM)) (k297 : PM → Option (Int32 × PM)) (k159 : PM → Option (Int32 × PM)) : Nat → Int32 → PM → Option (Int32 × PM)
  | 0, _, _ => none
  | fu + 1, v52, h53 => lnS h53 c0 fun x54 => if (x54 - 7) < v52 then (k1569 h53) else (aS h53 c0 v52 fun x55 => lt_ (x55 &&& 31) fun x56 => jn (fun  (h57 : PM) => F_L_law_L23 c0 c1 c2 c3 k1569 k1561 k1536 k1520 k1503 k1452 k1435 k1372 k1355 k1307 k1291 k1274 k1223 k1206 k1167 k1150 k1099 k1082 k1043 k1026 k963 k946 k907 k890 k827 k810 k759 k742 k703 k686 k623 k606 k567 k550 k499 k482 k446 k370 k353 k314 k297 k159 fu (v52 + 7) h57) fun k1563 => if x56 = 0 then (tst h53 c1 12 (cl (F_X11_rough c1 h53) fun r59 h60 => tst h60 c2 13 (cl (F_X12_rough c2 h60) fun r62 h63 => if r59 = r62 then (k1563 h63) else (k159 h63)))) else (if x56 = 1 then (aS h53 c0 (v52 + 1) fun x65 => aS h53 c0 (v52 + 2) fun x66 => aS h53 c0 (v52 + 3) fun x67 => aS h53 c0 (v52 + 4) fun x68 => aS h53 c0 (v52 + 5) fun x69 => aS h53 c0 (v52 + 6) fun x70 => cl (F_L_scan c1 x65 x66 (((Int32.toInt64 x67) <<< ((Int32.toInt64 32) &&& 63)) ||| ((Int32.toInt64 x68) &&& 4294967295)) (((Int32.toInt64 x69) <<< ((Int32.toInt64 32) &&& 63)) ||| ((Int32.toInt64 x70) &&& 4294967295)) c3 h53) fun r71 h72 => aS h72 c0 (v52 + 1) fun x74 => aS h72 c0 (v52 + 2) fun x75 => aS h72 c0 (v52 + 3) fun x76 => aS h72 c0 (v52 + 4) fun x77 => aS h72 c0 (v52 + 5) fun x78 => aS h72 c0 (v52 + 6) fun x79 => tst h72 c2 13 (cl (F_X12_scan c2 x74 x75 (((Int32.toInt64 x76) <<< ((Int32.toInt64 32) &&& 63)) ||| ((Int32.toInt64 x77) &&& 4294967295)) (((Int32.toInt64 x78) <<< ((Int32.toInt64 32) &&& 63)) ||| ((Int32.toInt64 x79) &&& 4294967295)) h72) fun r80 h81 => tst h81 c2 13 (cl (F_X12_thrown c2 h81) fun r83 h84 => if r83 = r71 then (jn (fun  (h86 : PM) => k1563 h86) fun k316 => if ¬ r71 = 0 then (k316 h84) else (aJ h84 c3 0 fun x87 => if (lg_cmp x87 (Int32.toInt64 r80)) = 0 then (k316 h84) else (k314 h84))) else (k297 h84)))) else (if x56 = 2 then (aS h53 c0 (v52 + 1) fun x88 => cl (F_L_stuff c1 x88 c3 h53) fun r89 h90 => aS h90 c0 (v52 + 1) fun x92 => tst h90 c2 13 (cl (F_X12_stuff c2 x92 h90) fun r93 h94 => tst h94 c2 13 (cl (F_X12_thrown c2 h94) fun r96 h97 => if r96 = r89 then (jn (fun  (h99 : PM) => k1563 h99) fun k372 => if ¬ r89 = 0 then (k372 h97) else (aJ h97 c3 0 fun x100 => if (lg_cmp x100 (Int32.toInt64 r93)) = 0 then (k372 h97) else (k370 h97))) else (k353 h97)))) else (if x56 = 3 then (aS h53 c0 (v52 + 1) fun x101 => aS h53 c0 (v52 + 2) fun x102 => aS h53 c0 (v52 + 3) fun x103 => aS h53 c0 (v52 + 4) fun x104 => aS h53 c0 (v52 + 5) fun x105 => tst h53 c1 12 (cl (F_X11_feed c1 x101 x102 x103 x104 x105 h53) fun r106 h107 => aS h107 c0 (v52 + 1) fun x109 => aS h107 c0 (v52 + 2) fun x110 => aS h107 c0 (v52 + 3) fun x111 => aS h107 c0 (v52 + 4) fun x112 => aS h107 c0 (v52 + 5) fun x113 => tst h107 c2 13 (cl (F_X12_feed c2 x109 x110 x111 x112 x113 h107) fun r114 h115 => if r106 = r114 then (k1563 h115) else (k446 h115)))) else (if x56 = 4 then (aS h53 c0 (v52 + 1) fun x117 => cl (F_L_model c1 x117 c3 h53) fun r118 h119 => aS h119 c0 (v52 + 1) fun x121 => tst h119 c2 13 (cl (F_X12_model c2 x121 h119) fun r122 h123 => tst h123 c2 13 (cl (F_X12_thrown c2 h123) fun r125 h126 => if r125 = r118 then (jn (fun  (h128 : PM) => k1563 h128) fun k501 => if ¬ r118 = 0 then (k501 h126) else (aJ h126 c3 0 fun x129 => if (lg_cmp x129 (Int32.toInt64 r122)) = 0 then (k501 h126) else (k499 h126))) else (k482 h126)))) else (if x56 = 5 then (aS h53 c0 (v52 + 1) fun x130 => aS h53 c0 (v52 + 2) fun x131 => cl (F_L_price c1 x130 x131 c3 h53) fun r132 h133 => aS h133 c0 (v52 + 1) fun x135 => aS h133 c0 (v52 + 2) fun x136 => tst h133 c2 13 (cl (F_X12_price c2 x135 x136 h133) fun r137 h138 => tst h138 c2 13 (cl (F_X12_thrown c2 h138) fun r140 h141 => if r140 = r132 then (jn (fun  (h143 : PM) => k1563 h143) fun k569 => if ¬ r132 = 0 then (k569 h141) else (aJ h141 c3 0 fun x144 => if (lg_cmp x144 (Int32.toInt64 r137)) = 0 then (k569 h141) else (k567 h141))) else (k550 h141)))) else (if x56 = 6 then (aS h53 c0 (v52 + 1) fun x145 => cl (F_L_worth c1 x145 c3 h53) fun r146 h147 => aS h147 c0 (v52 + 1) fun x149 => tst h147 c2 13 (cl (F_X12_worth c2 x149 h147) fun r150 h151 => tst h151 c2 13 (cl (F_X12_thrown c2 h151) fun r153 h154 => if r153 = r146 then (jn (fun  (h156 : PM) => k1563 h156) fun k625 => if ¬ r146 = 0 then (k625 h154) else (aJ h154 c3 0 fun x157 => if (lg_cmp x157 (Int32.toInt64 r150)) = 0 then (k625 h154) else (k623 h154))) else (k606 h154)))) else (if x56 = 7 then (aS h53 c0 (v52 + 1) fun x158 => aS h53 c0 (v52 + 2) fun x159 => aS h53 c0 (v52 + 3) fun x160 => cl (F_L_fit c1 x158 x159 x160 c3 h53) fun r161 h162 => aS h162 c0 (v52 + 1) fun x164 => aS h162 c0 (v52 + 2) fun x165 => aS h162 c0 (v52 + 3) fun x166 => tst h162 c2 13 (cl (F_X12_fit c2 x164 x165 x166 h162) fun r167 h168 => tst h168 c2 13 (cl (F_X12_thrown c2 h168) fun r170 h171 => if r170 = r161 then (jn (fun  (h173 : PM) => k1563 h173) fun k705 => if ¬ r161 = 0 then (k705 h171) else (aJ h171 c3 0 fun x174 => if (lg_cmp x174 (Int32.toInt64 r167)) = 0 then (k705 h171) else (k703 h171))) else (k686 h171)))) else (if x56 = 8 then (aS h53 c0 (v52 + 1) fun x175 => cl (F_L_best c1 x175 c3 h53) fun r176 h177 => aS h177 c0 (v52 + 1) fun x179 => tst h177 c2 13 (cl (F_X12_best c2 x179 h177) fun r180 h181 => tst h181 c2 13 (cl (F_X12_thrown c2 h181) fun r183 h184 => if r183 = r176 then (jn (fun  (h186 : PM) => k1563 h186) fun k761 => if ¬ r176 = 0 then (k761 h184) else (aJ h184 c3 0 fun x187 => if (lg_cmp x187 (Int32.toInt64 r180)) = 0 then (k761 h184) else (k759 h184))) else (k742 h184)))) else (if x56 = 9 then (aS h53 c0 (v52 + 1) fun x188 => aS h53 c0 (v52 + 2) fun x189 => cl (F_L_sawn c1 x188 x189 c3 h53) fun r190 h191 => aS h191 c0 (v52 + 1) fun x193 => aS h191 c0 (v52 + 2) fun x194 => tst h191 c2 13 (cl (F_X12_sawn c2 x193 x194 h191) fun r195 h196 => tst h196 c2 13 (cl (F_X12_thrown c2 h196) fun r198 h199 => if r198 = r190 then (jn (fun  (h201 : PM) => k1563 h201) fun k829 => if ¬ r190 = 0 then (k829 h199) else (aJ h199 c3 0 fun x202 => if (lg_cmp x202 (Int32.toInt64 r195)) = 0 then (k829 h199) else (k827 h199))) else (k810 h199)))) else (if x56 = 10 then (aS h53 c0 (v52 + 1) fun x203 => aS h53 c0 (v52 + 2) fun x204 => aS h53 c0 (v52 + 3) fun x205 => cl (F_L_cut c1 x203 x204 x205 c3 h53) fun r206 h207 => aS h207 c0 (v52 + 1) fun x209 => aS h207 c0 (v52 + 2) fun x210 => aS h207 c0 (v52 + 3) fun x211 => tst h207 c2 13 (cl (F_X12_cut c2 x209 x210 x211 h207) fun r212 h213 => tst h213 c2 13 (cl (F_X12_thrown c2 h213) fun r215 h216 => if r215 = r206 then (jn (fun  (h218 : PM) => k1563 h218) fun k909 => if ¬ r206 = 0 then (k909 h216) else (aJ h216 c3 0 fun x219 => if (lg_cmp x219 (Int32.toInt64 r212)) = 0 then (k909 h216) else (k907 h216))) else (k890 h216)))) else (if x56 = 11 then (aS h53 c0 (v52 + 1) fun x220 => cl (F_L_done c1 x220 c3 h53) fun r221 h222 => aS h222 c0 (v52 + 1) fun x224 => tst h222 c2 13 (cl (F_X12_done c2 x224 h222) fun r225 h226 => tst h226 c2 13 (cl (F_X12_thrown c2 h226) fun r228 h229 => if r228 = r221 then (jn (fun  (h231 : PM) => k1563 h231) fun k965 => if ¬ r221 = 0 then (k965 h229) else (aJ h229 c3 0 fun x232 => if (lg_cmp x232 (Int32.toInt64 r225)) = 0 then (k965 h229) else (k963 h229))) else (k946 h229)))) else (if x56 = 12 then (aS h53 c0 (v52 + 1) fun x233 => aS h53 c0 (v52 + 2) fun x234 => aS h53 c0 (v52 + 3) fun x235 => cl (F_L_facet c1 x233 x234 x235 c3 h53) fun r236 h237 => aS h237 c0 (v52 + 1) fun x239 => aS h237 c0 (v52 + 2) fun x240 => aS h237 c0 (v52 + 3) fun x241 => tst h237 c2 13 (cl (F_X12_facet c2 x239 x240 x241 h237) fun r242 h243 => tst h243 c2 13 (cl (F_X12_thrown c2 h243) fun r245 h246 => if r245 = r236 then (jn (fun  (h248 : PM) => k1563 h248) fun k1045 => if ¬ r236 = 0 then (k1045 h246) else (aJ h246 c3 0 fun x249 => if (lg_cmp x249 (Int32.toInt64 r242)) = 0 then (k1045 h246) else (k1043 h246))) else (k1026 h246)))) else (if x56 = 13 then (aS h53 c0 (v52 + 1) fun x250 => cl (F_L_round c1 x250 c3 h53) fun r251 h252 => aS h252 c0 (v52 + 1) fun x254 => tst h252 c2 13 (cl (F_X12_round c2 x254 h252) fun r255 h256 => tst h256 c2 13 (cl (F_X12_thrown c2 h256) fun r258 h259 => if r258 = r251 then (jn (fun  (h261 : PM) => k1563 h261) fun k1101 => if ¬ r251 = 0 then (k1101 h259) else (aJ h259 c3 0 fun x262 => if (lg_cmp x262 (Int32.toInt64 r255)) = 0 then (k1101 h259) else (k1099 h259))) else (k1082 h259)))) else (if x56 = 14 then (aS h53 c0 (v52 + 1) fun x263 => aS h53 c0 (v52 + 2) fun x264 => cl (F_L_plan c1 x263 x264 c3 h53) fun r265 h266 => aS h266 c0 (v52 + 1) fun x268 => aS h266 c0 (v52 + 2) fun x269 => tst h266 c2 13 (cl (F_X12_plan c2 x268 x269 h266) fun r270 h271 => tst h271 c2 13 (cl (F_X12_thrown c2 h271) fun r273 h274 => if r273 = r265 then (jn (fun  (h276 : PM) => k1563 h276) fun k1169 => if ¬ r265 = 0 then (k1169 h274) else (aJ h274 c3 0 fun x277 => if (lg_cmp x277 (Int32.toInt64 r270)) = 0 then (k1169 h274) else (k1167 h274))) else (k1150 h274)))) else (if x56 = 15 then (aS h53 c0 (v52 + 1) fun x278 => cl (F_L_polish c1 x278 c3 h53) fun r279 h280 => aS h280 c0 (v52 + 1) fun x282 => tst h280 c2 13 (cl (F_X12_polish c2 x282 h280) fun r283 h284 => tst h284 c2 13 (cl (F_X12_thrown c2 h284) fun r286 h287 => if r286 = r279 then (jn (fun  (h289 : PM) => k1563 h289) fun k1225 => if ¬ r279 = 0 then (k1225 h287) else (aJ h287 c3 0 fun x290 => if (lg_cmp x290 (Int32.toInt64 r283)) = 0 then (k1225 h287) else (k1223 h287))) else (k1206 h287)))) else (if x56 = 16 then (aS h53 c0 (v52 + 1) fun x291 => aS h53 c0 (v52 + 2) fun x292 => cl (F_L_told c1 x291 x292 c3 h53) fun r293 h294 => aS h294 c0 (v52 + 1) fun x296 => aS h294 c0 (v52 + 2) fun x297 => tst h294 c2 13 (cl (F_X12_told c2 x296 x297 h294) fun r298 h299 => tst h299 c2 13 (cl (F_X12_thrown c2 h299) fun r301 h302 => if r301 = r293 then (jn (fun  (h304 : PM) => k1563 h304) fun k1293 => if ¬ r293 = 0 then (k1293 h302) else (aJ h302 c3 0 fun x305 => if (lg_cmp x305 (Int32.toInt64 r298)) = 0 then (k1293 h302) else (k1291 h302))) else (k1274 h302)))) else (if x56 = 17 then (tst h53 c1 12 (cl (F_X11_match c1 h53) fun r306 h307 => tst h307 c2 13 (cl (F_X12_match c2 h307) fun r309 h310 => if r306 = r309 then (k1563 h310) else (k1307 h310)))) else (if x56 = 18 then (aS h53 c0 (v52 + 1) fun x312 => aS h53 c0 (v52 + 2) fun x313 => cl (F_L_lot c1 x312 x313 c3 h53) fun r314 h315 => aS h315 c0 (v52 + 1) fun x317 => aS h315 c0 (v52 + 2) fun x318 => tst h315 c2 13 (cl (F_X12_lot c2 x317 x318 h315) fun r319 h320 => tst h320 c2 13 (cl (F_X12_thrown c2 h320) fun r322 h323 => if r322 = r314 then (jn (fun  (h325 : PM) => k1563 h325) fun k1374 => if ¬ r314 = 0 then (k1374 h323) else (aJ h323 c3 0 fun x326 => if (lg_cmp x326 (Int32.toInt64 r319)) = 0 then (k1374 h323) else (k1372 h323))) else (k1355 h323)))) else (if x56 = 19 then (aS h53 c0 (v52 + 1) fun x327 => aS h53 c0 (v52 + 2) fun x328 => aS h53 c0 (v52 + 3) fun x329 => cl (F_L_bid c1 x327 x328 x329 c3 h53) fun r330 h331 => aS h331 c0 (v52 + 1) fun x333 => aS h331 c0 (v52 + 2) fun x334 => aS h331 c0 (v52 + 3) fun x335 => tst h331 c2 13 (cl (F_X12_bid c2 x333 x334 x335 h331) fun r336 h337 => tst h337 c2 13 (cl (F_X12_thrown c2 h337) fun r339 h340 => if r339 = r330 then (jn (fun  (h342 : PM) => k1563 h342) fun k1454 => if ¬ r330 = 0 then (k1454 h340) else (aJ h340 c3 0 fun x343 => if (lg_cmp x343 (Int32.toInt64 r336)) = 0 then (k1454 h340) else (k1452 h340))) else (k1435 h340)))) else (if x56 = 20 then (aS h53 c0 (v52 + 1) fun x344 => aS h53 c0 (v52 + 2) fun x345 => cl (F_L_most c1 x344 x345 c3 h53) fun r346 h347 => aS h347 c0 (v52 + 1) fun x349 => aS h347 c0 (v52 + 2) fun x350 => tst h347 c2 13 (cl (F_X12_most c2 x349 x350 h347) fun r351 h352 => tst h352 c2 13 (cl (F_X12_thrown c2 h352) fun r354 h355 => if r354 = r346 then (jn (fun  (h357 : PM) => k1563 h357) fun k1522 => if ¬ r346 = 0 then (k1522 h355) else (aJ h355 c3 0 fun x358 => if (lg_cmp x358 (Int32.toInt64 r351)) = 0 then (k1522 h355) else (k1520 h355))) else (k1503 h355)))) else (if x56 = 21 then (tst h53 c1 12 (cl (F_X11_sell c1 h53) fun r359 h360 => tst h360 c2 13 (cl (F_X12_sell c2 h360) fun r362 h363 => if r359 = r362 then (k1563 h363) else (k1536 h363)))) else (if x56 = 22 then (aS h53 c0 (v52 + 1) fun x365 => tst h53 c1 12 (cl (F_X11_count c1 x365 h53) fun r366 h367 => aS h367 c0 (v52 + 1) fun x369 => tst h367 c2 13 (cl (F_X12_count c2 x369 h367) fun r370 h371 => if r366 = r370 then (k1563 h371) else (k1561 h371)))) else (k1563 h53))))))))))))))))))))))))
def F_L_law (a0 : Nat) (h0 : PM) : Option (Int32 × PM) := nO h0 10 12 fun h1 => cl (F_X11_init 10 h1) fun r2 h3 => nO h3 200 13 fun h5 => cl (F_X12_init 200 h5) fun r6 h7 => nA h7 5 21 1 fun h9 => jn (fun  (h10 : PM) => rz 1 h10) fun k1569 => jn (fun  (h11 : PM) => rz 0 h11) fun k1561 => jn (fun  (h12 : PM) => rz 0 h12) fun k1536 => jn (fun  (h13 : PM) => rz 0 h13) fun k1520 => jn (fun  (h14 : PM) => rz 0 h14) fun k1503 => jn (fun  (h15 : PM) => rz 0 h15) fun k1452 => jn (fun  (h16 : PM) => rz 0 h16) fun k1435 => jn (fun  (h17 : PM) => rz 0 h17) fun k1372 => jn (fun  (h18 : PM) => rz 0 h18) fun k1355 => jn (fun  (h19 : PM) => rz 0 h19) fun k1307 => jn (fun  (h20 : PM) => rz 0 h20) fun k1291 => jn (fun  (h21 : PM) => rz 0 h21) fun k1274 => jn (fun  (h22 : PM) => rz 0 h22) fun k1223 => jn (fun  (h23 : PM) => rz 0 h23) fun k1206 => jn (fun  (h24 : PM) => rz 0 h24) fun k1167 => jn (fun  (h25 : PM) => rz 0 h25) fun k1150 => jn (fun  (h26 : PM) => rz 0 h26) fun k1099 => jn (fun  (h27 : PM) => rz 0 h27) fun k1082 => jn (fun  (h28 : PM) => rz 0 h28) fun k1043 => jn (fun  (h29 : PM) => rz 0 h29) fun k1026 => jn (fun  (h30 : PM) => rz 0 h30) fun k963 => jn (fun  (h31 : PM) => rz 0 h31) fun k946 => jn (fun  (h32 : PM) => rz 0 h32) fun k907 => jn (fun  (h33 : PM) => rz 0 h33) fun k890 => jn (fun  (h34 : PM) => rz 0 h34) fun k827 => jn (fun  (h35 : PM) => rz 0 h35) fun k810 => jn (fun  (h36 : PM) => rz 0 h36) fun k759 => jn (fun  (h37 : PM) => rz 0 h37) fun k742 => jn (fun  (h38 : PM) => rz 0 h38) fun k703 => jn (fun  (h39 : PM) => rz 0 h39) fun k686 => jn (fun  (h40 : PM) => rz 0 h40) fun k623 => jn (fun  (h41 : PM) => rz 0 h41) fun k606 => jn (fun  (h42 : PM) => rz 0 h42) fun k567 => jn (fun  (h43 : PM) => rz 0 h43) fun k550 => jn (fun  (h44 : PM) => rz 0 h44) fun k499 => jn (fun  (h45 : PM) => rz 0 h45) fun k482 => jn (fun  (h46 : PM) => rz 0 h46) fun k446 => jn (fun  (h47 : PM) => rz 0 h47) fun k370 => jn (fun  (h48 : PM) => rz 0 h48) fun k353 => jn (fun  (h49 : PM) => rz 0 h49) fun k314 => jn (fun  (h50 : PM) => rz 0 h50) fun k297 => jn (fun  (h51 : PM) => rz 0 h51) fun k159 => F_L_law_L23 a0 10 200 5 k1569 k1561 k1536 k1520 k1503 k1452 k1435 k1372 k1355 k1307 k1291 k1274 k1223 k1206 k1167 k1150 k1099 k1082 k1043 k1026 k963 k946 k907 k890 k827 k810 k759 k742 k703 k686 k623 k606 k567 k550 k499 k482 k446 k370 k353 k314 k297 k159 513 0 h9
set_option maxRecDepth 100000 in
set_option maxHeartbeats 40000000 in
theorem S_L_law {p : Program} {l : Launch} {e : Env} {s : State} {m : MethodId} {args : Array Value} {below : List Frame} {meth : Method} {c : Code} {D : va_G} {cy : Nat → ClassId} {base b : Nat} {ρ : Nat → Nat} {a0 : Nat} {h0 : PM} (hT : l.stackTraces = false) (C : Cx p room_1 s m args meth c D cy 601024 7293034 1312 code 7 RL) (V : EV base ρ h0 s s.heap) (NC : NC4 s) (hr : meth.sig.returnType = ret) (hB : base = s.heap.size) (hG : args = #[Value.ref b]) (X : Int32 × PM) (hX : X.1 = 1) (hF : F_L_law a0 h0 = some X) :
    WP p l e room_1 s m args below meth c D cy base ρ h0 0 0 7 (lw_Z below args s) 0 [(0, .ref a0)] [] h0 := by
  unfold F_L_law at hF
  refine k_new (a := 10) C dL_law_0 cls_12 cn_L_8 in_X11 ii_X11 (by first | decide | omega) (by first | decide | omega) hF (fun h1 hF => ?_)
  refine r_dup C dL_law_3 rfl ?_
  obtain ⟨r2, h3, hc4, hF⟩ := cl_some hF
  refine r_callI (As := []) C dL_law_4 V hT cal_X11_init ml_L_75 im_X11_init rfl (by first | decide | omega) rfl rfl (Nat.le_of_ble_eq_true rfl) (by first | decide | omega) (by first | decide | omega) (S_X11_init _ _ hc4) ?_
  refine r_astore_n C dL_law_7 rfl (by first | decide | omega) rfl ?_
  refine k_new (a := 200) C dL_law_8 cls_13 cn_L_76 in_X12 ii_X12 (by first | decide | omega) (by first | decide | omega) hF (fun h5 hF => ?_)
  refine r_dup C dL_law_11 rfl ?_
  obtain ⟨r6, h7, hc8, hF⟩ := cl_some hF
  refine r_callI (As := []) C dL_law_12 V hT cal_X12_init ml_L_78 im_X12_init rfl (by first | decide | omega) rfl rfl (Nat.le_of_ble_eq_true rfl) (by first | decide | omega) (by first | decide | omega) (S_X12_init _ _ hc8) ?_
  refine r_astore_n C dL_law_15 rfl (by first | decide | omega) rfl ?_
  refine r_iconst (v := 1) C dL_law_16 (by first | decide | omega) ?_
  refine k_newj (N := 1) (a := 5) C dL_law_17 ac_long (by first | decide | omega) (by first | decide | omega) (by first | decide | omega) hF (fun h9 hF => ?_)
  refine r_astore_n C dL_law_19 rfl (by first | decide | omega) rfl ?_
  refine r_iconst (v := 0) C dL_law_20 (by first | decide | omega) ?_
  refine r_istore C dL_law_21 (by first | decide | omega) rfl ?_
  obtain ⟨k1569, ek1569, hF⟩ := jn_some hF
  have Jk1569 : ∀  (h10 : PM), k1569 h10 = some X → WP p l e room_1 s m args below meth c D cy base ρ h0 21159 181765 7 (lw_Z below args s) 1569 [] [] h10 := by
    intro h10 hF
    rw [ek1569] at hF
    refine r_iconst (v := 1) C dL_law_1569 (by first | decide | omega) ?_
    exact k_lawret C dL_law_1570 hr hB hG hX (by first | decide | omega) (by first | decide | omega) hF
  obtain ⟨k1561, ek1561, hF⟩ := jn_some hF
  have Jk1561 : ∀  (h11 : PM), k1561 h11 = some X → WP p l e room_1 s m args below meth c D cy base ρ h0 21159 181765 7 (lw_Z below args s) 1561 [] [] h11 := by
    intro h11 hF
    rw [ek1561] at hF
    refine r_iconst (v := 0) C dL_law_1561 (by first | decide | omega) ?_
    exact k_lawret C dL_law_1562 hr hB hG hX (by first | decide | omega) (by first | decide | omega) hF
  obtain ⟨k1536, ek1536, hF⟩ := jn_some hF
  have Jk1536 : ∀  (h12 : PM), k1536 h12 = some X → WP p l e room_1 s m args below meth c D cy base ρ h0 21159 181765 7 (lw_Z below args s) 1536 [] [] h12 := by
    intro h12 hF
    rw [ek1536] at hF
    refine r_iconst (v := 0) C dL_law_1536 (by first | decide | omega) ?_
    exact k_lawret C dL_law_1537 hr hB hG hX (by first | decide | omega) (by first | decide | omega) hF
  obtain ⟨k1520, ek1520, hF⟩ := jn_some hF
  have Jk1520 : ∀  (h13 : PM), k1520 h13 = some X → WP p l e room_1 s m args below meth c D cy base ρ h0 21159 181765 7 (lw_Z below args s) 1520 [] [] h13 := by
    intro h13 hF
    rw [ek1520] at hF
    refine r_iconst (v := 0) C dL_law_1520 (by first | decide | omega) ?_
    exact k_lawret C dL_law_1521 hr hB hG hX (by first | decide | omega) (by first | decide | omega) hF
  obtain ⟨k1503, ek1503, hF⟩ := jn_some hF
  have Jk1503 : ∀  (h14 : PM), k1503 h14 = some X → WP p l e room_1 s m args below meth c D cy base ρ h0 21159 181765 7 (lw_Z below args s) 1503 [] [] h14 := by
    intro h14 hF
    rw [ek1503] at hF
    refine r_iconst (v := 0) C dL_law_1503 (by first | decide | omega) ?_
    exact k_lawret C dL_law_1504 hr hB hG hX (by first | decide | omega) (by first | decide | omega) hF
  obtain ⟨k1452, ek1452, hF⟩ := jn_some hF
  have Jk1452 : ∀  (h15 : PM), k1452 h15 = some X → WP p l e room_1 s m args below meth c D cy base ρ h0 21159 181765 7 (lw_Z below args s) 1452 [] [] h15 := by
    intro h15 hF
    rw [ek1452] at hF
    refine r_iconst (v := 0) C dL_law_1452 (by first | decide | omega) ?_
    exact k_lawret C dL_law_1453 hr hB hG hX (by first | decide | omega) (by first | decide | omega) hF
  obtain ⟨k1435, ek1435, hF⟩ := jn_some hF
  have Jk1435 : ∀  (h16 : PM), k1435 h16 = some X → WP p l e room_1 s m args below meth c D cy base ρ h0 21159 181765 7 (lw_Z below args s) 1435 [] [] h16 := by
    intro h16 hF
    rw [ek1435] at hF
    refine r_iconst (v := 0) C dL_law_1435 (by first | decide | omega) ?_
    exact k_lawret C dL_law_1436 hr hB hG hX (by first | decide | omega) (by first | decide | omega) hF
  obtain ⟨k1372, ek1372, hF⟩ := jn_some hF
  have Jk1372 : ∀  (h17 : PM), k1372 h17 = some X → WP p l e room_1 s m args below meth c D cy base ρ h0 21159 181765 7 (lw_Z below args s) 1372 [] [] h17 := by
    intro h17 hF
    rw [ek1372] at hF
    refine r_iconst (v := 0) C dL_law_1372 (by first | decide | omega) ?_
    exact k_lawret C dL_law_1373 hr hB hG hX (by first | decide | omega) (by first | decide | omega) hF
  obtain ⟨k1355, ek1355, hF⟩ := jn_some hF
  have Jk1355 : ∀  (h18 : PM), k1355 h18 = some X → WP p l e room_1 s m args below meth c D cy base ρ h0 21159 181765 7 (lw_Z below args s) 1355 [] [] h18 := by
    intro h18 hF
    rw [ek1355] at hF
    refine r_iconst (v := 0) C dL_law_1355 (by first | decide | omega) ?_
    exact k_lawret C dL_law_1356 hr hB hG hX (by first | decide | omega) (by first | decide | omega) hF
  obtain ⟨k1307, ek1307, hF⟩ := jn_some hF
  have Jk1307 : ∀  (h19 : PM), k1307 h19 = some X → WP p l e room_1 s m args below meth c D cy base ρ h0 21159 181765 7 (lw_Z below args s) 1307 [] [] h19 := by
    intro h19 hF
    rw [ek1307] at hF
    refine r_iconst (v := 0) C dL_law_1307 (by first | decide | omega) ?_
    exact k_lawret C dL_law_1308 hr hB hG hX (by first | decide | omega) (by first | decide | omega) hF
  obtain ⟨k1291, ek1291, hF⟩ := jn_some hF
  have Jk1291 : ∀  (h20 : PM), k1291 h20 = some X → WP p l e room_1 s m args below meth c D cy base ρ h0 21159 181765 7 (lw_Z below args s) 1291 [] [] h20 := by
    intro h20 hF
    rw [ek1291] at hF
    refine r_iconst (v := 0) C dL_law_1291 (by first | decide | omega) ?_
    exact k_lawret C dL_law_1292 hr hB hG hX (by first | decide | omega) (by first | decide | omega) hF
  obtain ⟨k1274, ek1274, hF⟩ := jn_some hF
  have Jk1274 : ∀  (h21 : PM), k1274 h21 = some X → WP p l e room_1 s m args below meth c D cy base ρ h0 21159 181765 7 (lw_Z below args s) 1274 [] [] h21 := by
    intro h21 hF
    rw [ek1274] at hF
    refine r_iconst (v := 0) C dL_law_1274 (by first | decide | omega) ?_
    exact k_lawret C dL_law_1275 hr hB hG hX (by first | decide | omega) (by first | decide | omega) hF
  obtain ⟨k1223, ek1223, hF⟩ := jn_some hF
  have Jk1223 : ∀  (h22 : PM), k1223 h22 = some X → WP p l e room_1 s m args below meth c D cy base ρ h0 21159 181765 7 (lw_Z below args s) 1223 [] [] h22 := by
    intro h22 hF
    rw [ek1223] at hF
    refine r_iconst (v := 0) C dL_law_1223 (by first | decide | omega) ?_
    exact k_lawret C dL_law_1224 hr hB hG hX (by first | decide | omega) (by first | decide | omega) hF
  obtain ⟨k1206, ek1206, hF⟩ := jn_some hF
  have Jk1206 : ∀  (h23 : PM), k1206 h23 = some X → WP p l e room_1 s m args below meth c D cy base ρ h0 21159 181765 7 (lw_Z below args s) 1206 [] [] h23 := by
    intro h23 hF
    rw [ek1206] at hF
    refine r_iconst (v := 0) C dL_law_1206 (by first | decide | omega) ?_
    exact k_lawret C dL_law_1207 hr hB hG hX (by first | decide | omega) (by first | decide | omega) hF
  obtain ⟨k1167, ek1167, hF⟩ := jn_some hF
  have Jk1167 : ∀  (h24 : PM), k1167 h24 = some X → WP p l e room_1 s m args below meth c D cy base ρ h0 21159 181765 7 (lw_Z below args s) 1167 [] [] h24 := by
    intro h24 hF
    rw [ek1167] at hF
    refine r_iconst (v := 0) C dL_law_1167 (by first | decide | omega) ?_
    exact k_lawret C dL_law_1168 hr hB hG hX (by first | decide | omega) (by first | decide | omega) hF
  obtain ⟨k1150, ek1150, hF⟩ := jn_some hF
  have Jk1150 : ∀  (h25 : PM), k1150 h25 = some X → WP p l e room_1 s m args below meth c D cy base ρ h0 21159 181765 7 (lw_Z below args s) 1150 [] [] h25 := by
    intro h25 hF
    rw [ek1150] at hF
    refine r_iconst (v := 0) C dL_law_1150 (by first | decide | omega) ?_
    exact k_lawret C dL_law_1151 hr hB hG hX (by first | decide | omega) (by first | decide | omega) hF
  obtain ⟨k1099, ek1099, hF⟩ := jn_some hF
  have Jk1099 : ∀  (h26 : PM), k1099 h26 = some X → WP p l e room_1 s m args below meth c D cy base ρ h0 21159 181765 7 (lw_Z below args s) 1099 [] [] h26 := by
    intro h26 hF
    rw [ek1099] at hF
    refine r_iconst (v := 0) C dL_law_1099 (by first | decide | omega) ?_
    exact k_lawret C dL_law_1100 hr hB hG hX (by first | decide | omega) (by first | decide | omega) hF
  obtain ⟨k1082, ek1082, hF⟩ := jn_some hF
  have Jk1082 : ∀  (h27 : PM), k1082 h27 = some X → WP p l e room_1 s m args below meth c D cy base ρ h0 21159 181765 7 (lw_Z below args s) 1082 [] [] h27 := by
    intro h27 hF
    rw [ek1082] at hF
    refine r_iconst (v := 0) C dL_law_1082 (by first | decide | omega) ?_
    exact k_lawret C dL_law_1083 hr hB hG hX (by first | decide | omega) (by first | decide | omega) hF
  obtain ⟨k1043, ek1043, hF⟩ := jn_some hF
  have Jk1043 : ∀  (h28 : PM), k1043 h28 = some X → WP p l e room_1 s m args below meth c D cy base ρ h0 21159 181765 7 (lw_Z below args s) 1043 [] [] h28 := by
    intro h28 hF
    rw [ek1043] at hF
    refine r_iconst (v := 0) C dL_law_1043 (by first | decide | omega) ?_
    exact k_lawret C dL_law_1044 hr hB hG hX (by first | decide | omega) (by first | decide | omega) hF
  obtain ⟨k1026, ek1026, hF⟩ := jn_some hF
  have Jk1026 : ∀  (h29 : PM), k1026 h29 = some X → WP p l e room_1 s m args below meth c D cy base ρ h0 21159 181765 7 (lw_Z below args s) 1026 [] [] h29 := by
    intro h29 hF
    rw [ek1026] at hF
    refine r_iconst (v := 0) C dL_law_1026 (by first | decide | omega) ?_
    exact k_lawret C dL_law_1027 hr hB hG hX (by first | decide | omega) (by first | decide | omega) hF
  obtain ⟨k963, ek963, hF⟩ := jn_some hF
  have Jk963 : ∀  (h30 : PM), k963 h30 = some X → WP p l e room_1 s m args below meth c D cy base ρ h0 21159 181765 7 (lw_Z below args s) 963 [] [] h30 := by
    intro h30 hF
    rw [ek963] at hF
    refine r_iconst (v := 0) C dL_law_963 (by first | decide | omega) ?_
    exact k_lawret C dL_law_964 hr hB hG hX (by first | decide | omega) (by first | decide | omega) hF
  obtain ⟨k946, ek946, hF⟩ := jn_some hF
  have Jk946 : ∀  (h31 : PM), k946 h31 = some X → WP p l e room_1 s m args below meth c D cy base ρ h0 21159 181765 7 (lw_Z below args s) 946 [] [] h31 := by
    intro h31 hF
    rw [ek946] at hF
    refine r_iconst (v := 0) C dL_law_946 (by first | decide | omega) ?_
    exact k_lawret C dL_law_947 hr hB hG hX (by first | decide | omega) (by first | decide | omega) hF
  obtain ⟨k907, ek907, hF⟩ := jn_some hF
  have Jk907 : ∀  (h32 : PM), k907 h32 = some X → WP p l e room_1 s m args below meth c D cy base ρ h0 21159 181765 7 (lw_Z below args s) 907 [] [] h32 := by
    intro h32 hF
    rw [ek907] at hF
    refine r_iconst (v := 0) C dL_law_907 (by first | decide | omega) ?_
    exact k_lawret C dL_law_908 hr hB hG hX (by first | decide | omega) (by first | decide | omega) hF
  obtain ⟨k890, ek890, hF⟩ := jn_some hF
  have Jk890 : ∀  (h33 : PM), k890 h33 = some X → WP p l e room_1 s m args below meth c D cy base ρ h0 21159 181765 7 (lw_Z below args s) 890 [] [] h33 := by
    intro h33 hF
    rw [ek890] at hF
    refine r_iconst (v := 0) C dL_law_890 (by first | decide | omega) ?_
    exact k_lawret C dL_law_891 hr hB hG hX (by first | decide | omega) (by first | decide | omega) hF
  obtain ⟨k827, ek827, hF⟩ := jn_some hF
  have Jk827 : ∀  (h34 : PM), k827 h34 = some X → WP p l e room_1 s m args below meth c D cy base ρ h0 21159 181765 7 (lw_Z below args s) 827 [] [] h34 := by
    intro h34 hF
    rw [ek827] at hF
    refine r_iconst (v := 0) C dL_law_827 (by first | decide | omega) ?_
    exact k_lawret C dL_law_828 hr hB hG hX (by first | decide | omega) (by first | decide | omega) hF
  obtain ⟨k810, ek810, hF⟩ := jn_some hF
  have Jk810 : ∀  (h35 : PM), k810 h35 = some X → WP p l e room_1 s m args below meth c D cy base ρ h0 21159 181765 7 (lw_Z below args s) 810 [] [] h35 := by
    intro h35 hF
    rw [ek810] at hF
    refine r_iconst (v := 0) C dL_law_810 (by first | decide | omega) ?_
    exact k_lawret C dL_law_811 hr hB hG hX (by first | decide | omega) (by first | decide | omega) hF
  obtain ⟨k759, ek759, hF⟩ := jn_some hF
  have Jk759 : ∀  (h36 : PM), k759 h36 = some X → WP p l e room_1 s m args below meth c D cy base ρ h0 21159 181765 7 (lw_Z below args s) 759 [] [] h36 := by
    intro h36 hF
    rw [ek759] at hF
    refine r_iconst (v := 0) C dL_law_759 (by first | decide | omega) ?_
    exact k_lawret C dL_law_760 hr hB hG hX (by first | decide | omega) (by first | decide | omega) hF
  obtain ⟨k742, ek742, hF⟩ := jn_some hF
  have Jk742 : ∀  (h37 : PM), k742 h37 = some X → WP p l e room_1 s m args below meth c D cy base ρ h0 21159 181765 7 (lw_Z below args s) 742 [] [] h37 := by
    intro h37 hF
    rw [ek742] at hF
    refine r_iconst (v := 0) C dL_law_742 (by first | decide | omega) ?_
    exact k_lawret C dL_law_743 hr hB hG hX (by first | decide | omega) (by first | decide | omega) hF
  obtain ⟨k703, ek703, hF⟩ := jn_some hF
  have Jk703 : ∀  (h38 : PM), k703 h38 = some X → WP p l e room_1 s m args below meth c D cy base ρ h0 21159 181765 7 (lw_Z below args s) 703 [] [] h38 := by
    intro h38 hF
    rw [ek703] at hF
    refine r_iconst (v := 0) C dL_law_703 (by first | decide | omega) ?_
    exact k_lawret C dL_law_704 hr hB hG hX (by first | decide | omega) (by first | decide | omega) hF
  obtain ⟨k686, ek686, hF⟩ := jn_some hF
  have Jk686 : ∀  (h39 : PM), k686 h39 = some X → WP p l e room_1 s m args below meth c D cy base ρ h0 21159 181765 7 (lw_Z below args s) 686 [] [] h39 := by
    intro h39 hF
    rw [ek686] at hF
    refine r_iconst (v := 0) C dL_law_686 (by first | decide | omega) ?_
    exact k_lawret C dL_law_687 hr hB hG hX (by first | decide | omega) (by first | decide | omega) hF
  obtain ⟨k623, ek623, hF⟩ := jn_some hF
  have Jk623 : ∀  (h40 : PM), k623 h40 = some X → WP p l e room_1 s m args below meth c D cy base ρ h0 21159 181765 7 (lw_Z below args s) 623 [] [] h40 := by
    intro h40 hF
    rw [ek623] at hF
    refine r_iconst (v := 0) C dL_law_623 (by first | decide | omega) ?_
    exact k_lawret C dL_law_624 hr hB hG hX (by first | decide | omega) (by first | decide | omega) hF
  obtain ⟨k606, ek606, hF⟩ := jn_some hF
  have Jk606 : ∀  (h41 : PM), k606 h41 = some X → WP p l e room_1 s m args below meth c D cy base ρ h0 21159 181765 7 (lw_Z below args s) 606 [] [] h41 := by
    intro h41 hF
    rw [ek606] at hF
    refine r_iconst (v := 0) C dL_law_606 (by first | decide | omega) ?_
    exact k_lawret C dL_law_607 hr hB hG hX (by first | decide | omega) (by first | decide | omega) hF
  obtain ⟨k567, ek567, hF⟩ := jn_some hF
  have Jk567 : ∀  (h42 : PM), k567 h42 = some X → WP p l e room_1 s m args below meth c D cy base ρ h0 21159 181765 7 (lw_Z below args s) 567 [] [] h42 := by
    intro h42 hF
    rw [ek567] at hF
    refine r_iconst (v := 0) C dL_law_567 (by first | decide | omega) ?_
    exact k_lawret C dL_law_568 hr hB hG hX (by first | decide | omega) (by first | decide | omega) hF
  obtain ⟨k550, ek550, hF⟩ := jn_some hF
  have Jk550 : ∀  (h43 : PM), k550 h43 = some X → WP p l e room_1 s m args below meth c D cy base ρ h0 21159 181765 7 (lw_Z below args s) 550 [] [] h43 := by
    intro h43 hF
    rw [ek550] at hF
    refine r_iconst (v := 0) C dL_law_550 (by first | decide | omega) ?_
    exact k_lawret C dL_law_551 hr hB hG hX (by first | decide | omega) (by first | decide | omega) hF
  obtain ⟨k499, ek499, hF⟩ := jn_some hF
  have Jk499 : ∀  (h44 : PM), k499 h44 = some X → WP p l e room_1 s m args below meth c D cy base ρ h0 21159 181765 7 (lw_Z below args s) 499 [] [] h44 := by
    intro h44 hF
    rw [ek499] at hF
    refine r_iconst (v := 0) C dL_law_499 (by first | decide | omega) ?_
    exact k_lawret C dL_law_500 hr hB hG hX (by first | decide | omega) (by first | decide | omega) hF
  obtain ⟨k482, ek482, hF⟩ := jn_some hF
  have Jk482 : ∀  (h45 : PM), k482 h45 = some X → WP p l e room_1 s m args below meth c D cy base ρ h0 21159 181765 7 (lw_Z below args s) 482 [] [] h45 := by
    intro h45 hF
    rw [ek482] at hF
    refine r_iconst (v := 0) C dL_law_482 (by first | decide | omega) ?_
    exact k_lawret C dL_law_483 hr hB hG hX (by first | decide | omega) (by first | decide | omega) hF
  obtain ⟨k446, ek446, hF⟩ := jn_some hF
  have Jk446 : ∀  (h46 : PM), k446 h46 = some X → WP p l e room_1 s m args below meth c D cy base ρ h0 21159 181765 7 (lw_Z below args s) 446 [] [] h46 := by
    intro h46 hF
    rw [ek446] at hF
    refine r_iconst (v := 0) C dL_law_446 (by first | decide | omega) ?_
    exact k_lawret C dL_law_447 hr hB hG hX (by first | decide | omega) (by first | decide | omega) hF
  obtain ⟨k370, ek370, hF⟩ := jn_some hF
  have Jk370 : ∀  (h47 : PM), k370 h47 = some X → WP p l e room_1 s m args below meth c D cy base ρ h0 21159 181765 7 (lw_Z below args s) 370 [] [] h47 := by
    intro h47 hF
    rw [ek370] at hF
    refine r_iconst (v := 0) C dL_law_370 (by first | decide | omega) ?_
    exact k_lawret C dL_law_371 hr hB hG hX (by first | decide | omega) (by first | decide | omega) hF
  obtain ⟨k353, ek353, hF⟩ := jn_some hF
  have Jk353 : ∀  (h48 : PM), k353 h48 = some X → WP p l e room_1 s m args below meth c D cy base ρ h0 21159 181765 7 (lw_Z below args s) 353 [] [] h48 := by
    intro h48 hF
    rw [ek353] at hF
    refine r_iconst (v := 0) C dL_law_353 (by first | decide | omega) ?_
    exact k_lawret C dL_law_354 hr hB hG hX (by first | decide | omega) (by first | decide | omega) hF
  obtain ⟨k314, ek314, hF⟩ := jn_some hF
  have Jk314 : ∀  (h49 : PM), k314 h49 = some X → WP p l e room_1 s m args below meth c D cy base ρ h0 21159 181765 7 (lw_Z below args s) 314 [] [] h49 := by
    intro h49 hF
    rw [ek314] at hF
    refine r_iconst (v := 0) C dL_law_314 (by first | decide | omega) ?_
    exact k_lawret C dL_law_315 hr hB hG hX (by first | decide | omega) (by first | decide | omega) hF
  obtain ⟨k297, ek297, hF⟩ := jn_some hF
  have Jk297 : ∀  (h50 : PM), k297 h50 = some X → WP p l e room_1 s m args below meth c D cy base ρ h0 21159 181765 7 (lw_Z below args s) 297 [] [] h50 := by
    intro h50 hF
    rw [ek297] at hF
    refine r_iconst (v := 0) C dL_law_297 (by first | decide | omega) ?_
    exact k_lawret C dL_law_298 hr hB hG hX (by first | decide | omega) (by first | decide | omega) hF
  obtain ⟨k159, ek159, hF⟩ := jn_some hF
  have Jk159 : ∀  (h51 : PM), k159 h51 = some X → WP p l e room_1 s m args below meth c D cy base ρ h0 21159 181765 7 (lw_Z below args s) 159 [] [] h51 := by
    intro h51 hF
    rw [ek159] at hF
    refine r_iconst (v := 0) C dL_law_159 (by first | decide | omega) ?_
    exact k_lawret C dL_law_160 hr hB hG hX (by first | decide | omega) (by first | decide | omega) hF
  have L23 : ∀ (fu : Nat) (v52 : Int32) (h53 : PM), fu ≤ 513 → F_L_law_L23 a0 10 200 5 k1569 k1561 k1536 k1520 k1503 k1452 k1435 k1372 k1355 k1307 k1291 k1274 k1223 k1206 k1167 k1150 k1099 k1082 k1043 k1026 k963 k946 k907 k890 k827 k810 k759 k742 k703 k686 k623 k606 k567 k550 k499 k482 k446 k370 k353 k314 k297 k159 fu v52 h53 = some X → WP p l e room_1 s m args below meth c D cy base ρ h0 (126 + 41 * (513 - fu)) (14014 + 327 * (513 - fu)) 7 (lw_Z below args s) 23 [(0, .ref a0), (1, .ref 10), (2, .ref 200), (3, .ref 5), (4, .int v52)] [] h53 := by
    intro fu
    induction fu with
    | zero => intro v52 h53 hfu hF; rw [F_L_law_L23.eq_1] at hF; cases hF
    | succ fu ih =>
      intro v52 h53 hfu hF
      rw [F_L_law_L23.eq_2] at hF
      refine r_iload C dL_law_23 4 rfl ?_
      refine r_aload_n C dL_law_25 rfl 0 rfl ?_
      refine k_lnS C dL_law_26 hF (fun x54 hF => ?_)
      refine r_bipush (v := 7) C dL_law_27 (by first | decide | omega) ?_
      refine r_isub C dL_law_29 ?_
      refine r_icmp_gt (tgt := 1569) C dL_law_30 (by first | decide | omega) hF (fun hF => ?_) (fun hF => ?_)
      · exact r_sub [] rfl (WP.cnt (by first | decide | omega) (by first | decide | omega) (Jk1569  _ hF))
      · refine r_aload_n C dL_law_33 rfl 0 rfl ?_
        refine r_iload C dL_law_34 4 rfl ?_
        refine k_aS C dL_law_36 hF (fun x55 hF => ?_)
        refine r_bipush (v := 31) C dL_law_37 (by first | decide | omega) ?_
        refine r_iand C dL_law_39 ?_
        refine k_lti hF (fun x56 hF => ?_)
        obtain ⟨k1563_57, ek1563_57, hF⟩ := jn_some hF
        have Jk1563_57 : ∀  (h58 : PM), k1563_57 h58 = some X → WP p l e room_1 s m args below meth c D cy base ρ h0 (126 + 41 * (513 - (fu + 1)) + 41) (14014 + 327 * (513 - (fu + 1)) + 327) 7 (lw_Z below args s) 1563 [(0, .ref a0), (1, .ref 10), (2, .ref 200), (3, .ref 5), (4, .int v52)] [] h58 := by
          intro h58 hF
          rw [ek1563_57] at hF
          refine r_iinc (v := v52 + 7) C dL_law_1563 4 rfl (congrArg (fun z => v52 + z) (by first | decide | omega)) (by first | decide | omega) rfl ?_
          refine r_goto (tgt := 23) C dL_law_1566 (by first | decide | omega) ?_
          exact r_sub [1, 2, 3, 4, 0] rfl (WP.cnt (by first | decide | omega) (by first | decide | omega) (ih _ _ (by omega) hF))
        by_cases q0 : x56 = 0
        · rw [if_pos q0] at hF
          refine r_tableIn (tgt := 148) C dL_law_40 (by rw [q0]; decide) (by rw [q0]; decide) (by rw [q0] <;> rfl) (by first | decide | omega) ?_
          refine r_aload_n C dL_law_148 rfl 1 rfl ?_
          obtain ⟨ht, hF⟩ := tst_some hF
          obtain ⟨r60, h61, hc62, hF⟩ := cl_some hF
          refine r_callV (As := []) C dL_law_149 V hT cal_X11_rough cls_12 ml_L_79 im_X11_rough se_X11_rough ht (by first | decide | omega) rfl rfl (Nat.le_of_ble_eq_true rfl) (by first | decide | omega) (by first | decide | omega) (S_X11_rough _ _ hc62) ?_
          refine r_aload_n C dL_law_152 rfl 2 rfl ?_
          obtain ⟨ht, hF⟩ := tst_some hF
          obtain ⟨r63, h64, hc65, hF⟩ := cl_some hF
          refine r_callV (As := []) C dL_law_153 V hT cal_X12_rough cls_13 ml_L_83 im_X12_rough se_X12_rough ht (by first | decide | omega) rfl rfl (Nat.le_of_ble_eq_true rfl) (by first | decide | omega) (by first | decide | omega) (S_X12_rough _ _ hc65) ?_
          refine r_icmp_eq (tgt := 1563) C dL_law_156 (by first | decide | omega) hF (fun hF => ?_) (fun hF => ?_)
          · exact WP.cnt (by first | decide | omega) (by first | decide | omega) (Jk1563_57  _ hF)
          · exact r_sub [] rfl (WP.cnt (by first | decide | omega) (by first | decide | omega) (Jk159  _ hF))
        rw [if_neg q0] at hF
        by_cases q1 : x56 = 1
        · rw [if_pos q1] at hF
          refine r_tableIn (tgt := 161) C dL_law_40 (by rw [q1]; decide) (by rw [q1]; decide) (by rw [q1] <;> rfl) (by first | decide | omega) ?_
          refine r_aload_n C dL_law_161 rfl 1 rfl ?_
          refine r_aload_n C dL_law_162 rfl 0 rfl ?_
          refine r_iload C dL_law_163 4 rfl ?_
          refine r_iconst (v := 1) C dL_law_165 (by first | decide | omega) ?_
          refine r_iadd C dL_law_166 ?_
          refine k_aS C dL_law_167 hF (fun x66 hF => ?_)
          refine r_aload_n C dL_law_168 rfl 0 rfl ?_
          refine r_iload C dL_law_169 4 rfl ?_
          refine r_iconst (v := 2) C dL_law_171 (by first | decide | omega) ?_
          refine r_iadd C dL_law_172 ?_
          refine k_aS C dL_law_173 hF (fun x67 hF => ?_)
          refine r_aload_n C dL_law_174 rfl 0 rfl ?_
          refine r_iload C dL_law_175 4 rfl ?_
          refine r_iconst (v := 3) C dL_law_177 (by first | decide | omega) ?_
          refine r_iadd C dL_law_178 ?_
          refine k_aS C dL_law_179 hF (fun x68 hF => ?_)
          refine r_i2l C dL_law_180 ?_
          refine r_bipush (v := 32) C dL_law_181 (by first | decide | omega) ?_
          refine r_lshl C dL_law_183 ?_
          refine r_aload_n C dL_law_184 rfl 0 rfl ?_
          refine r_iload C dL_law_185 4 rfl ?_
          refine r_iconst (v := 4) C dL_law_187 (by first | decide | omega) ?_
          refine r_iadd C dL_law_188 ?_
          refine k_aS C dL_law_189 hF (fun x69 hF => ?_)
          refine r_i2l C dL_law_190 ?_
          refine r_ldc2 C dL_law_191 cl_L_84 ?_
          refine r_land C dL_law_194 ?_
          refine r_lor C dL_law_195 ?_
          refine r_aload_n C dL_law_196 rfl 0 rfl ?_
          refine r_iload C dL_law_197 4 rfl ?_
          refine r_iconst (v := 5) C dL_law_199 (by first | decide | omega) ?_
          refine r_iadd C dL_law_200 ?_
          refine k_aS C dL_law_201 hF (fun x70 hF => ?_)
          refine r_i2l C dL_law_202 ?_
          refine r_bipush (v := 32) C dL_law_203 (by first | decide | omega) ?_
          refine r_lshl C dL_law_205 ?_
          refine r_aload_n C dL_law_206 rfl 0 rfl ?_
          refine r_iload C dL_law_207 4 rfl ?_
          refine r_bipush (v := 6) C dL_law_209 (by first | decide | omega) ?_
          refine r_iadd C dL_law_211 ?_
          refine k_aS C dL_law_212 hF (fun x71 hF => ?_)
          refine r_i2l C dL_law_213 ?_
          refine r_ldc2 C dL_law_214 cl_L_84 ?_
          refine r_land C dL_law_217 ?_
          refine r_lor C dL_law_218 ?_
          refine r_aload_n C dL_law_219 rfl 3 rfl ?_
          obtain ⟨r72, h73, hc74, hF⟩ := cl_some hF
          refine r_callSW (As := [.ref 10, .int x66, .int x67, .long (((Int32.toInt64 x68) <<< ((Int32.toInt64 32) &&& 63)) ||| ((Int32.toInt64 x69) &&& 4294967295)), .long (((Int32.toInt64 x70) <<< ((Int32.toInt64 32) &&& 63)) ||| ((Int32.toInt64 x71) &&& 4294967295)), .ref 5]) C dL_law_220 V hT NC cw_L_scan ml_L_86 sm_L_scan (by first | decide | omega) rfl rfl (Nat.le_of_ble_eq_true rfl) (by first | decide | omega) (by first | decide | omega) (S_L_scan _ _ hc74) ?_
          refine r_istore C dL_law_223 (by first | decide | omega) rfl ?_
          refine r_aload_n C dL_law_225 rfl 3 rfl ?_
          refine r_aload_n C dL_law_226 rfl 1 rfl ?_
          refine r_iload C dL_law_227 5 rfl ?_
          refine r_iconst (v := 1) C dL_law_229 (by first | decide | omega) ?_
          refine r_iadd C dL_law_230 ?_
          refine k_aS C dL_law_231 hF (fun x75 hF => ?_)
          refine r_aload_n C dL_law_232 rfl 1 rfl ?_
          refine r_iload C dL_law_233 5 rfl ?_
          refine r_iconst (v := 2) C dL_law_235 (by first | decide | omega) ?_
          refine r_iadd C dL_law_236 ?_
          refine k_aS C dL_law_237 hF (fun x76 hF => ?_)
          refine r_aload_n C dL_law_238 rfl 1 rfl ?_
          refine r_iload C dL_law_239 5 rfl ?_
          refine r_iconst (v := 3) C dL_law_241 (by first | decide | omega) ?_
          refine r_iadd C dL_law_242 ?_
          refine k_aS C dL_law_243 hF (fun x77 hF => ?_)
          refine r_i2l C dL_law_244 ?_
          refine r_bipush (v := 32) C dL_law_245 (by first | decide | omega) ?_
          refine r_lshl C dL_law_247 ?_
          refine r_aload_n C dL_law_248 rfl 1 rfl ?_
          refine r_iload C dL_law_249 5 rfl ?_
          refine r_iconst (v := 4) C dL_law_251 (by first | decide | omega) ?_
          refine r_iadd C dL_law_252 ?_
          refine k_aS C dL_law_253 hF (fun x78 hF => ?_)
          refine r_i2l C dL_law_254 ?_
          refine r_ldc2 C dL_law_255 cl_L_84 ?_
          refine r_land C dL_law_258 ?_
          refine r_lor C dL_law_259 ?_
          refine r_aload_n C dL_law_260 rfl 1 rfl ?_
          refine r_iload C dL_law_261 5 rfl ?_
          refine r_iconst (v := 5) C dL_law_263 (by first | decide | omega) ?_
          refine r_iadd C dL_law_264 ?_
          refine k_aS C dL_law_265 hF (fun x79 hF => ?_)
          refine r_i2l C dL_law_266 ?_
          refine r_bipush (v := 32) C dL_law_267 (by first | decide | omega) ?_
          refine r_lshl C dL_law_269 ?_
          refine r_aload_n C dL_law_270 rfl 1 rfl ?_
          refine r_iload C dL_law_271 5 rfl ?_
          refine r_bipush (v := 6) C dL_law_273 (by first | decide | omega) ?_
          refine r_iadd C dL_law_275 ?_
          refine k_aS C dL_law_276 hF (fun x80 hF => ?_)
          refine r_i2l C dL_law_277 ?_
          refine r_ldc2 C dL_law_278 cl_L_84 ?_
          refine r_land C dL_law_281 ?_
          refine r_lor C dL_law_282 ?_
          obtain ⟨ht, hF⟩ := tst_some hF
          obtain ⟨r81, h82, hc83, hF⟩ := cl_some hF
          refine r_callV (As := [.int x75, .int x76, .long (((Int32.toInt64 x77) <<< ((Int32.toInt64 32) &&& 63)) ||| ((Int32.toInt64 x78) &&& 4294967295)), .long (((Int32.toInt64 x79) <<< ((Int32.toInt64 32) &&& 63)) ||| ((Int32.toInt64 x80) &&& 4294967295))]) C dL_law_283 V hT cal_X12_scan cls_13 ml_L_91 im_X12_scan se_X12_scan ht (by first | decide | omega) rfl rfl (Nat.le_of_ble_eq_true rfl) (by first | decide | omega) (by first | decide | omega) (S_X12_scan _ _ hc83) ?_
          refine r_istore C dL_law_286 (by first | decide | omega) rfl ?_
          refine r_aload_n C dL_law_288 rfl 4 rfl ?_
          obtain ⟨ht, hF⟩ := tst_some hF
          obtain ⟨r84, h85, hc86, hF⟩ := cl_some hF
          refine r_callV (As := []) C dL_law_289 V hT cal_X12_thrown cls_13 ml_L_92 im_X12_thrown se_X12_thrown ht (by first | decide | omega) rfl rfl (Nat.le_of_ble_eq_true rfl) (by first | decide | omega) (by first | decide | omega) (S_X12_thrown _ _ hc86) ?_
          refine r_iload C dL_law_292 1 rfl ?_
          refine r_icmp_eq (tgt := 299) C dL_law_294 (by first | decide | omega) hF (fun hF => ?_) (fun hF => ?_)
          · refine r_iload C dL_law_299 1 rfl ?_
            obtain ⟨k316_87, ek316_87, hF⟩ := jn_some hF
            have Jk316_87 : ∀  (h88 : PM), k316_87 h88 = some X → WP p l e room_1 s m args below meth c D cy base ρ h0 (126 + 41 * (513 - (fu + 1)) + 2) (14014 + 327 * (513 - (fu + 1)) + 12) 7 (lw_Z below args s) 316 [(0, .ref a0), (1, .ref 10), (2, .ref 200), (3, .ref 5), (4, .int v52)] [] h88 := by
              intro h88 hF
              rw [ek316_87] at hF
              refine r_goto (tgt := 1563) C dL_law_316 (by first | decide | omega) ?_
              exact WP.cnt (by first | decide | omega) (by first | decide | omega) (Jk1563_57  _ hF)
            refine r_if_ne (tgt := 316) C dL_law_301 (by first | decide | omega) hF (fun hF => ?_) (fun hF => ?_)
            · exact r_sub [2, 3, 4, 5, 6] rfl (Jk316_87  _ hF)
            · refine r_aload_n C dL_law_304 rfl 5 rfl ?_
              refine r_iconst (v := 0) C dL_law_305 (by first | decide | omega) ?_
              refine k_aJ C dL_law_306 hF (fun x89 hF => ?_)
              refine r_iload C dL_law_307 0 rfl ?_
              refine r_i2l C dL_law_309 ?_
              refine r_lcmp C dL_law_310 ?_
              refine r_if_eq (tgt := 316) C dL_law_311 (by first | decide | omega) hF (fun hF => ?_) (fun hF => ?_)
              · exact r_sub [2, 3, 4, 5, 6] rfl (Jk316_87  _ hF)
              · exact r_sub [] rfl (WP.cnt (by first | decide | omega) (by first | decide | omega) (Jk314  _ hF))
          · exact r_sub [] rfl (WP.cnt (by first | decide | omega) (by first | decide | omega) (Jk297  _ hF))
        rw [if_neg q1] at hF
        by_cases q2 : x56 = 2
        · rw [if_pos q2] at hF
          refine r_tableIn (tgt := 319) C dL_law_40 (by rw [q2]; decide) (by rw [q2]; decide) (by rw [q2] <;> rfl) (by first | decide | omega) ?_
          refine r_aload_n C dL_law_319 rfl 1 rfl ?_
          refine r_aload_n C dL_law_320 rfl 0 rfl ?_
          refine r_iload C dL_law_321 4 rfl ?_
          refine r_iconst (v := 1) C dL_law_323 (by first | decide | omega) ?_
          refine r_iadd C dL_law_324 ?_
          refine k_aS C dL_law_325 hF (fun x90 hF => ?_)
          refine r_aload_n C dL_law_326 rfl 3 rfl ?_
          obtain ⟨r91, h92, hc93, hF⟩ := cl_some hF
          refine r_callSW (As := [.ref 10, .int x90, .ref 5]) C dL_law_327 V hT NC cw_L_stuff ml_L_95 sm_L_stuff (by first | decide | omega) rfl rfl (Nat.le_of_ble_eq_true rfl) (by first | decide | omega) (by first | decide | omega) (S_L_stuff _ _ hc93) ?_
          refine r_istore C dL_law_330 (by first | decide | omega) rfl ?_
          refine r_aload_n C dL_law_332 rfl 3 rfl ?_
          refine r_aload_n C dL_law_333 rfl 1 rfl ?_
          refine r_iload C dL_law_334 5 rfl ?_
          refine r_iconst (v := 1) C dL_law_336 (by first | decide | omega) ?_
          refine r_iadd C dL_law_337 ?_
          refine k_aS C dL_law_338 hF (fun x94 hF => ?_)
          obtain ⟨ht, hF⟩ := tst_some hF
          obtain ⟨r95, h96, hc97, hF⟩ := cl_some hF
          refine r_callV (As := [.int x94]) C dL_law_339 V hT cal_X12_stuff cls_13 ml_L_98 im_X12_stuff se_X12_stuff ht (by first | decide | omega) rfl rfl (Nat.le_of_ble_eq_true rfl) (by first | decide | omega) (by first | decide | omega) (S_X12_stuff _ _ hc97) ?_
          refine r_istore C dL_law_342 (by first | decide | omega) rfl ?_
          refine r_aload_n C dL_law_344 rfl 4 rfl ?_
          obtain ⟨ht, hF⟩ := tst_some hF
          obtain ⟨r98, h99, hc100, hF⟩ := cl_some hF
          refine r_callV (As := []) C dL_law_345 V hT cal_X12_thrown cls_13 ml_L_92 im_X12_thrown se_X12_thrown ht (by first | decide | omega) rfl rfl (Nat.le_of_ble_eq_true rfl) (by first | decide | omega) (by first | decide | omega) (S_X12_thrown _ _ hc100) ?_
          refine r_iload C dL_law_348 1 rfl ?_
          refine r_icmp_eq (tgt := 355) C dL_law_350 (by first | decide | omega) hF (fun hF => ?_) (fun hF => ?_)
          · refine r_iload C dL_law_355 1 rfl ?_
            obtain ⟨k372_101, ek372_101, hF⟩ := jn_some hF
            have Jk372_101 : ∀  (h102 : PM), k372_101 h102 = some X → WP p l e room_1 s m args below meth c D cy base ρ h0 (126 + 41 * (513 - (fu + 1)) + 1) (14014 + 327 * (513 - (fu + 1)) + 6) 7 (lw_Z below args s) 372 [(0, .ref a0), (1, .ref 10), (2, .ref 200), (3, .ref 5), (4, .int v52)] [] h102 := by
              intro h102 hF
              rw [ek372_101] at hF
              refine r_goto (tgt := 1563) C dL_law_372 (by first | decide | omega) ?_
              exact WP.cnt (by first | decide | omega) (by first | decide | omega) (Jk1563_57  _ hF)
            refine r_if_ne (tgt := 372) C dL_law_357 (by first | decide | omega) hF (fun hF => ?_) (fun hF => ?_)
            · exact r_sub [2, 3, 4, 5, 6] rfl (Jk372_101  _ hF)
            · refine r_aload_n C dL_law_360 rfl 5 rfl ?_
              refine r_iconst (v := 0) C dL_law_361 (by first | decide | omega) ?_
              refine k_aJ C dL_law_362 hF (fun x103 hF => ?_)
              refine r_iload C dL_law_363 0 rfl ?_
              refine r_i2l C dL_law_365 ?_
              refine r_lcmp C dL_law_366 ?_
              refine r_if_eq (tgt := 372) C dL_law_367 (by first | decide | omega) hF (fun hF => ?_) (fun hF => ?_)
              · exact r_sub [2, 3, 4, 5, 6] rfl (Jk372_101  _ hF)
              · exact r_sub [] rfl (WP.cnt (by first | decide | omega) (by first | decide | omega) (Jk370  _ hF))
          · exact r_sub [] rfl (WP.cnt (by first | decide | omega) (by first | decide | omega) (Jk353  _ hF))
        rw [if_neg q2] at hF
        by_cases q3 : x56 = 3
        · rw [if_pos q3] at hF
          refine r_tableIn (tgt := 375) C dL_law_40 (by rw [q3]; decide) (by rw [q3]; decide) (by rw [q3] <;> rfl) (by first | decide | omega) ?_
          refine r_aload_n C dL_law_375 rfl 1 rfl ?_
          refine r_aload_n C dL_law_376 rfl 0 rfl ?_
          refine r_iload C dL_law_377 4 rfl ?_
          refine r_iconst (v := 1) C dL_law_379 (by first | decide | omega) ?_
          refine r_iadd C dL_law_380 ?_
          refine k_aS C dL_law_381 hF (fun x104 hF => ?_)
          refine r_aload_n C dL_law_382 rfl 0 rfl ?_
          refine r_iload C dL_law_383 4 rfl ?_
          refine r_iconst (v := 2) C dL_law_385 (by first | decide | omega) ?_
          refine r_iadd C dL_law_386 ?_
          refine k_aS C dL_law_387 hF (fun x105 hF => ?_)
          refine r_aload_n C dL_law_388 rfl 0 rfl ?_
          refine r_iload C dL_law_389 4 rfl ?_
          refine r_iconst (v := 3) C dL_law_391 (by first | decide | omega) ?_
          refine r_iadd C dL_law_392 ?_
          refine k_aS C dL_law_393 hF (fun x106 hF => ?_)
          refine r_aload_n C dL_law_394 rfl 0 rfl ?_
          refine r_iload C dL_law_395 4 rfl ?_
          refine r_iconst (v := 4) C dL_law_397 (by first | decide | omega) ?_
          refine r_iadd C dL_law_398 ?_
          refine k_aS C dL_law_399 hF (fun x107 hF => ?_)
          refine r_aload_n C dL_law_400 rfl 0 rfl ?_
          refine r_iload C dL_law_401 4 rfl ?_
          refine r_iconst (v := 5) C dL_law_403 (by first | decide | omega) ?_
          refine r_iadd C dL_law_404 ?_
          refine k_aS C dL_law_405 hF (fun x108 hF => ?_)
          obtain ⟨ht, hF⟩ := tst_some hF
          obtain ⟨r109, h110, hc111, hF⟩ := cl_some hF
          refine r_callV (As := [.int x104, .int x105, .int x106, .int x107, .int x108]) C dL_law_406 V hT cal_X11_feed cls_12 ml_L_99 im_X11_feed se_X11_feed ht (by first | decide | omega) rfl rfl (Nat.le_of_ble_eq_true rfl) (by first | decide | omega) (by first | decide | omega) (S_X11_feed _ _ hc111) ?_
          refine r_aload_n C dL_law_409 rfl 2 rfl ?_
          refine r_aload_n C dL_law_410 rfl 0 rfl ?_
          refine r_iload C dL_law_411 4 rfl ?_
          refine r_iconst (v := 1) C dL_law_413 (by first | decide | omega) ?_
          refine r_iadd C dL_law_414 ?_
          refine k_aS C dL_law_415 hF (fun x112 hF => ?_)
          refine r_aload_n C dL_law_416 rfl 0 rfl ?_
          refine r_iload C dL_law_417 4 rfl ?_
          refine r_iconst (v := 2) C dL_law_419 (by first | decide | omega) ?_
          refine r_iadd C dL_law_420 ?_
          refine k_aS C dL_law_421 hF (fun x113 hF => ?_)
          refine r_aload_n C dL_law_422 rfl 0 rfl ?_
          refine r_iload C dL_law_423 4 rfl ?_
          refine r_iconst (v := 3) C dL_law_425 (by first | decide | omega) ?_
          refine r_iadd C dL_law_426 ?_
          refine k_aS C dL_law_427 hF (fun x114 hF => ?_)
          refine r_aload_n C dL_law_428 rfl 0 rfl ?_
          refine r_iload C dL_law_429 4 rfl ?_
          refine r_iconst (v := 4) C dL_law_431 (by first | decide | omega) ?_
          refine r_iadd C dL_law_432 ?_
          refine k_aS C dL_law_433 hF (fun x115 hF => ?_)
          refine r_aload_n C dL_law_434 rfl 0 rfl ?_
          refine r_iload C dL_law_435 4 rfl ?_
          refine r_iconst (v := 5) C dL_law_437 (by first | decide | omega) ?_
          refine r_iadd C dL_law_438 ?_
          refine k_aS C dL_law_439 hF (fun x116 hF => ?_)
          obtain ⟨ht, hF⟩ := tst_some hF
          obtain ⟨r117, h118, hc119, hF⟩ := cl_some hF
          refine r_callV (As := [.int x112, .int x113, .int x114, .int x115, .int x116]) C dL_law_440 V hT cal_X12_feed cls_13 ml_L_103 im_X12_feed se_X12_feed ht (by first | decide | omega) rfl rfl (Nat.le_of_ble_eq_true rfl) (by first | decide | omega) (by first | decide | omega) (S_X12_feed _ _ hc119) ?_
          refine r_icmp_eq (tgt := 1563) C dL_law_443 (by first | decide | omega) hF (fun hF => ?_) (fun hF => ?_)
          · exact WP.cnt (by first | decide | omega) (by first | decide | omega) (Jk1563_57  _ hF)
          · exact r_sub [] rfl (WP.cnt (by first | decide | omega) (by first | decide | omega) (Jk446  _ hF))
        rw [if_neg q3] at hF
        by_cases q4 : x56 = 4
        · rw [if_pos q4] at hF
          refine r_tableIn (tgt := 448) C dL_law_40 (by rw [q4]; decide) (by rw [q4]; decide) (by rw [q4] <;> rfl) (by first | decide | omega) ?_
          refine r_aload_n C dL_law_448 rfl 1 rfl ?_
          refine r_aload_n C dL_law_449 rfl 0 rfl ?_
          refine r_iload C dL_law_450 4 rfl ?_
          refine r_iconst (v := 1) C dL_law_452 (by first | decide | omega) ?_
          refine r_iadd C dL_law_453 ?_
          refine k_aS C dL_law_454 hF (fun x120 hF => ?_)
          refine r_aload_n C dL_law_455 rfl 3 rfl ?_
          obtain ⟨r121, h122, hc123, hF⟩ := cl_some hF
          refine r_callSW (As := [.ref 10, .int x120, .ref 5]) C dL_law_456 V hT NC cw_L_model ml_L_104 sm_L_model (by first | decide | omega) rfl rfl (Nat.le_of_ble_eq_true rfl) (by first | decide | omega) (by first | decide | omega) (S_L_model _ _ hc123) ?_
          refine r_istore C dL_law_459 (by first | decide | omega) rfl ?_
          refine r_aload_n C dL_law_461 rfl 3 rfl ?_
          refine r_aload_n C dL_law_462 rfl 1 rfl ?_
          refine r_iload C dL_law_463 5 rfl ?_
          refine r_iconst (v := 1) C dL_law_465 (by first | decide | omega) ?_
          refine r_iadd C dL_law_466 ?_
          refine k_aS C dL_law_467 hF (fun x124 hF => ?_)
          obtain ⟨ht, hF⟩ := tst_some hF
          obtain ⟨r125, h126, hc127, hF⟩ := cl_some hF
          refine r_callV (As := [.int x124]) C dL_law_468 V hT cal_X12_model cls_13 ml_L_106 im_X12_model se_X12_model ht (by first | decide | omega) rfl rfl (Nat.le_of_ble_eq_true rfl) (by first | decide | omega) (by first | decide | omega) (S_X12_model _ _ hc127) ?_
          refine r_istore C dL_law_471 (by first | decide | omega) rfl ?_
          refine r_aload_n C dL_law_473 rfl 4 rfl ?_
          obtain ⟨ht, hF⟩ := tst_some hF
          obtain ⟨r128, h129, hc130, hF⟩ := cl_some hF
          refine r_callV (As := []) C dL_law_474 V hT cal_X12_thrown cls_13 ml_L_92 im_X12_thrown se_X12_thrown ht (by first | decide | omega) rfl rfl (Nat.le_of_ble_eq_true rfl) (by first | decide | omega) (by first | decide | omega) (S_X12_thrown _ _ hc130) ?_
          refine r_iload C dL_law_477 1 rfl ?_
          refine r_icmp_eq (tgt := 484) C dL_law_479 (by first | decide | omega) hF (fun hF => ?_) (fun hF => ?_)
          · refine r_iload C dL_law_484 1 rfl ?_
            obtain ⟨k501_131, ek501_131, hF⟩ := jn_some hF
            have Jk501_131 : ∀  (h132 : PM), k501_131 h132 = some X → WP p l e room_1 s m args below meth c D cy base ρ h0 (126 + 41 * (513 - (fu + 1)) + 41) (14014 + 327 * (513 - (fu + 1)) + 327) 7 (lw_Z below args s) 501 [(0, .ref a0), (1, .ref 10), (2, .ref 200), (3, .ref 5), (4, .int v52)] [] h132 := by
              intro h132 hF
              rw [ek501_131] at hF
              refine r_goto (tgt := 1563) C dL_law_501 (by first | decide | omega) ?_
              exact Jk1563_57  _ hF
            refine r_if_ne (tgt := 501) C dL_law_486 (by first | decide | omega) hF (fun hF => ?_) (fun hF => ?_)
            · exact r_sub [2, 3, 4, 5, 6] rfl (Jk501_131  _ hF)
            · refine r_aload_n C dL_law_489 rfl 5 rfl ?_
              refine r_iconst (v := 0) C dL_law_490 (by first | decide | omega) ?_
              refine k_aJ C dL_law_491 hF (fun x133 hF => ?_)
              refine r_iload C dL_law_492 0 rfl ?_
              refine r_i2l C dL_law_494 ?_
              refine r_lcmp C dL_law_495 ?_
              refine r_if_eq (tgt := 501) C dL_law_496 (by first | decide | omega) hF (fun hF => ?_) (fun hF => ?_)
              · exact r_sub [2, 3, 4, 5, 6] rfl (Jk501_131  _ hF)
              · exact r_sub [] rfl (WP.cnt (by first | decide | omega) (by first | decide | omega) (Jk499  _ hF))
          · exact r_sub [] rfl (WP.cnt (by first | decide | omega) (by first | decide | omega) (Jk482  _ hF))
        rw [if_neg q4] at hF
        by_cases q5 : x56 = 5
        · rw [if_pos q5] at hF
          refine r_tableIn (tgt := 504) C dL_law_40 (by rw [q5]; decide) (by rw [q5]; decide) (by rw [q5] <;> rfl) (by first | decide | omega) ?_
          refine r_aload_n C dL_law_504 rfl 1 rfl ?_
          refine r_aload_n C dL_law_505 rfl 0 rfl ?_
          refine r_iload C dL_law_506 4 rfl ?_
          refine r_iconst (v := 1) C dL_law_508 (by first | decide | omega) ?_
          refine r_iadd C dL_law_509 ?_
          refine k_aS C dL_law_510 hF (fun x134 hF => ?_)
          refine r_aload_n C dL_law_511 rfl 0 rfl ?_
          refine r_iload C dL_law_512 4 rfl ?_
          refine r_iconst (v := 2) C dL_law_514 (by first | decide | omega) ?_
          refine r_iadd C dL_law_515 ?_
          refine k_aS C dL_law_516 hF (fun x135 hF => ?_)
          refine r_aload_n C dL_law_517 rfl 3 rfl ?_
          obtain ⟨r136, h137, hc138, hF⟩ := cl_some hF
          refine r_callSW (As := [.ref 10, .int x134, .int x135, .ref 5]) C dL_law_518 V hT NC cw_L_price ml_L_107 sm_L_price (by first | decide | omega) rfl rfl (Nat.le_of_ble_eq_true rfl) (by first | decide | omega) (by first | decide | omega) (S_L_price _ _ hc138) ?_
          refine r_istore C dL_law_521 (by first | decide | omega) rfl ?_
          refine r_aload_n C dL_law_523 rfl 3 rfl ?_
          refine r_aload_n C dL_law_524 rfl 1 rfl ?_
          refine r_iload C dL_law_525 5 rfl ?_
          refine r_iconst (v := 1) C dL_law_527 (by first | decide | omega) ?_
          refine r_iadd C dL_law_528 ?_
          refine k_aS C dL_law_529 hF (fun x139 hF => ?_)
          refine r_aload_n C dL_law_530 rfl 1 rfl ?_
          refine r_iload C dL_law_531 5 rfl ?_
          refine r_iconst (v := 2) C dL_law_533 (by first | decide | omega) ?_
          refine r_iadd C dL_law_534 ?_
          refine k_aS C dL_law_535 hF (fun x140 hF => ?_)
          obtain ⟨ht, hF⟩ := tst_some hF
          obtain ⟨r141, h142, hc143, hF⟩ := cl_some hF
          refine r_callV (As := [.int x139, .int x140]) C dL_law_536 V hT cal_X12_price cls_13 ml_L_110 im_X12_price se_X12_price ht (by first | decide | omega) rfl rfl (Nat.le_of_ble_eq_true rfl) (by first | decide | omega) (by first | decide | omega) (S_X12_price _ _ hc143) ?_
          refine r_istore C dL_law_539 (by first | decide | omega) rfl ?_
          refine r_aload_n C dL_law_541 rfl 4 rfl ?_
          obtain ⟨ht, hF⟩ := tst_some hF
          obtain ⟨r144, h145, hc146, hF⟩ := cl_some hF
          refine r_callV (As := []) C dL_law_542 V hT cal_X12_thrown cls_13 ml_L_92 im_X12_thrown se_X12_thrown ht (by first | decide | omega) rfl rfl (Nat.le_of_ble_eq_true rfl) (by first | decide | omega) (by first | decide | omega) (S_X12_thrown _ _ hc146) ?_
          refine r_iload C dL_law_545 1 rfl ?_
          refine r_icmp_eq (tgt := 552) C dL_law_547 (by first | decide | omega) hF (fun hF => ?_) (fun hF => ?_)
          · refine r_iload C dL_law_552 1 rfl ?_
            obtain ⟨k569_147, ek569_147, hF⟩ := jn_some hF
            have Jk569_147 : ∀  (h148 : PM), k569_147 h148 = some X → WP p l e room_1 s m args below meth c D cy base ρ h0 (126 + 41 * (513 - (fu + 1)) + 1) (14014 + 327 * (513 - (fu + 1)) + 6) 7 (lw_Z below args s) 569 [(0, .ref a0), (1, .ref 10), (2, .ref 200), (3, .ref 5), (4, .int v52)] [] h148 := by
              intro h148 hF
              rw [ek569_147] at hF
              refine r_goto (tgt := 1563) C dL_law_569 (by first | decide | omega) ?_
              exact WP.cnt (by first | decide | omega) (by first | decide | omega) (Jk1563_57  _ hF)
            refine r_if_ne (tgt := 569) C dL_law_554 (by first | decide | omega) hF (fun hF => ?_) (fun hF => ?_)
            · exact r_sub [2, 3, 4, 5, 6] rfl (Jk569_147  _ hF)
            · refine r_aload_n C dL_law_557 rfl 5 rfl ?_
              refine r_iconst (v := 0) C dL_law_558 (by first | decide | omega) ?_
              refine k_aJ C dL_law_559 hF (fun x149 hF => ?_)
              refine r_iload C dL_law_560 0 rfl ?_
              refine r_i2l C dL_law_562 ?_
              refine r_lcmp C dL_law_563 ?_
              refine r_if_eq (tgt := 569) C dL_law_564 (by first | decide | omega) hF (fun hF => ?_) (fun hF => ?_)
              · exact r_sub [2, 3, 4, 5, 6] rfl (Jk569_147  _ hF)
              · exact r_sub [] rfl (WP.cnt (by first | decide | omega) (by first | decide | omega) (Jk567  _ hF))
          · exact r_sub [] rfl (WP.cnt (by first | decide | omega) (by first | decide | omega) (Jk550  _ hF))
        rw [if_neg q5] at hF
        by_cases q6 : x56 = 6
        · rw [if_pos q6] at hF
          refine r_tableIn (tgt := 572) C dL_law_40 (by rw [q6]; decide) (by rw [q6]; decide) (by rw [q6] <;> rfl) (by first | decide | omega) ?_
          refine r_aload_n C dL_law_572 rfl 1 rfl ?_
          refine r_aload_n C dL_law_573 rfl 0 rfl ?_
          refine r_iload C dL_law_574 4 rfl ?_
          refine r_iconst (v := 1) C dL_law_576 (by first | decide | omega) ?_
          refine r_iadd C dL_law_577 ?_
          refine k_aS C dL_law_578 hF (fun x150 hF => ?_)
          refine r_aload_n C dL_law_579 rfl 3 rfl ?_
          obtain ⟨r151, h152, hc153, hF⟩ := cl_some hF
          refine r_callSW (As := [.ref 10, .int x150, .ref 5]) C dL_law_580 V hT NC cw_L_worth ml_L_111 sm_L_worth (by first | decide | omega) rfl rfl (Nat.le_of_ble_eq_true rfl) (by first | decide | omega) (by first | decide | omega) (S_L_worth _ _ hc153) ?_
          refine r_istore C dL_law_583 (by first | decide | omega) rfl ?_
          refine r_aload_n C dL_law_585 rfl 3 rfl ?_
          refine r_aload_n C dL_law_586 rfl 1 rfl ?_
          refine r_iload C dL_law_587 5 rfl ?_
          refine r_iconst (v := 1) C dL_law_589 (by first | decide | omega) ?_
          refine r_iadd C dL_law_590 ?_
          refine k_aS C dL_law_591 hF (fun x154 hF => ?_)
          obtain ⟨ht, hF⟩ := tst_some hF
          obtain ⟨r155, h156, hc157, hF⟩ := cl_some hF
          refine r_callV (As := [.int x154]) C dL_law_592 V hT cal_X12_worth cls_13 ml_L_113 im_X12_worth se_X12_worth ht (by first | decide | omega) rfl rfl (Nat.le_of_ble_eq_true rfl) (by first | decide | omega) (by first | decide | omega) (S_X12_worth _ _ hc157) ?_
          refine r_istore C dL_law_595 (by first | decide | omega) rfl ?_
          refine r_aload_n C dL_law_597 rfl 4 rfl ?_
          obtain ⟨ht, hF⟩ := tst_some hF
          obtain ⟨r158, h159, hc160, hF⟩ := cl_some hF
          refine r_callV (As := []) C dL_law_598 V hT cal_X12_thrown cls_13 ml_L_92 im_X12_thrown se_X12_thrown ht (by first | decide | omega) rfl rfl (Nat.le_of_ble_eq_true rfl) (by first | decide | omega) (by first | decide | omega) (S_X12_thrown _ _ hc160) ?_
          refine r_iload C dL_law_601 1 rfl ?_
          refine r_icmp_eq (tgt := 608) C dL_law_603 (by first | decide | omega) hF (fun hF => ?_) (fun hF => ?_)
          · refine r_iload C dL_law_608 1 rfl ?_
            obtain ⟨k625_161, ek625_161, hF⟩ := jn_some hF
            have Jk625_161 : ∀  (h162 : PM), k625_161 h162 = some X → WP p l e room_1 s m args below meth c D cy base ρ h0 (126 + 41 * (513 - (fu + 1)) + 1) (14014 + 327 * (513 - (fu + 1)) + 6) 7 (lw_Z below args s) 625 [(0, .ref a0), (1, .ref 10), (2, .ref 200), (3, .ref 5), (4, .int v52)] [] h162 := by
              intro h162 hF
              rw [ek625_161] at hF
              refine r_goto (tgt := 1563) C dL_law_625 (by first | decide | omega) ?_
              exact WP.cnt (by first | decide | omega) (by first | decide | omega) (Jk1563_57  _ hF)
            refine r_if_ne (tgt := 625) C dL_law_610 (by first | decide | omega) hF (fun hF => ?_) (fun hF => ?_)
            · exact r_sub [2, 3, 4, 5, 6] rfl (Jk625_161  _ hF)
            · refine r_aload_n C dL_law_613 rfl 5 rfl ?_
              refine r_iconst (v := 0) C dL_law_614 (by first | decide | omega) ?_
              refine k_aJ C dL_law_615 hF (fun x163 hF => ?_)
              refine r_iload C dL_law_616 0 rfl ?_
              refine r_i2l C dL_law_618 ?_
              refine r_lcmp C dL_law_619 ?_
              refine r_if_eq (tgt := 625) C dL_law_620 (by first | decide | omega) hF (fun hF => ?_) (fun hF => ?_)
              · exact r_sub [2, 3, 4, 5, 6] rfl (Jk625_161  _ hF)
              · exact r_sub [] rfl (WP.cnt (by first | decide | omega) (by first | decide | omega) (Jk623  _ hF))
          · exact r_sub [] rfl (WP.cnt (by first | decide | omega) (by first | decide | omega) (Jk606  _ hF))
        rw [if_neg q6] at hF
        by_cases q7 : x56 = 7
        · rw [if_pos q7] at hF
          refine r_tableIn (tgt := 628) C dL_law_40 (by rw [q7]; decide) (by rw [q7]; decide) (by rw [q7] <;> rfl) (by first | decide | omega) ?_
          refine r_aload_n C dL_law_628 rfl 1 rfl ?_
          refine r_aload_n C dL_law_629 rfl 0 rfl ?_
          refine r_iload C dL_law_630 4 rfl ?_
          refine r_iconst (v := 1) C dL_law_632 (by first | decide | omega) ?_
          refine r_iadd C dL_law_633 ?_
          refine k_aS C dL_law_634 hF (fun x164 hF => ?_)
          refine r_aload_n C dL_law_635 rfl 0 rfl ?_
          refine r_iload C dL_law_636 4 rfl ?_
          refine r_iconst (v := 2) C dL_law_638 (by first | decide | omega) ?_
          refine r_iadd C dL_law_639 ?_
          refine k_aS C dL_law_640 hF (fun x165 hF => ?_)
          refine r_aload_n C dL_law_641 rfl 0 rfl ?_
          refine r_iload C dL_law_642 4 rfl ?_
          refine r_iconst (v := 3) C dL_law_644 (by first | decide | omega) ?_
          refine r_iadd C dL_law_645 ?_
          refine k_aS C dL_law_646 hF (fun x166 hF => ?_)
          refine r_aload_n C dL_law_647 rfl 3 rfl ?_
          obtain ⟨r167, h168, hc169, hF⟩ := cl_some hF
          refine r_callSW (As := [.ref 10, .int x164, .int x165, .int x166, .ref 5]) C dL_law_648 V hT NC cw_L_fit ml_L_114 sm_L_fit (by first | decide | omega) rfl rfl (Nat.le_of_ble_eq_true rfl) (by first | decide | omega) (by first | decide | omega) (S_L_fit _ _ hc169) ?_
          refine r_istore C dL_law_651 (by first | decide | omega) rfl ?_
          refine r_aload_n C dL_law_653 rfl 3 rfl ?_
          refine r_aload_n C dL_law_654 rfl 1 rfl ?_
          refine r_iload C dL_law_655 5 rfl ?_
          refine r_iconst (v := 1) C dL_law_657 (by first | decide | omega) ?_
          refine r_iadd C dL_law_658 ?_
          refine k_aS C dL_law_659 hF (fun x170 hF => ?_)
          refine r_aload_n C dL_law_660 rfl 1 rfl ?_
          refine r_iload C dL_law_661 5 rfl ?_
          refine r_iconst (v := 2) C dL_law_663 (by first | decide | omega) ?_
          refine r_iadd C dL_law_664 ?_
          refine k_aS C dL_law_665 hF (fun x171 hF => ?_)
          refine r_aload_n C dL_law_666 rfl 1 rfl ?_
          refine r_iload C dL_law_667 5 rfl ?_
          refine r_iconst (v := 3) C dL_law_669 (by first | decide | omega) ?_
          refine r_iadd C dL_law_670 ?_
          refine k_aS C dL_law_671 hF (fun x172 hF => ?_)
          obtain ⟨ht, hF⟩ := tst_some hF
          obtain ⟨r173, h174, hc175, hF⟩ := cl_some hF
          refine r_callV (As := [.int x170, .int x171, .int x172]) C dL_law_672 V hT cal_X12_fit cls_13 ml_L_117 im_X12_fit se_X12_fit ht (by first | decide | omega) rfl rfl (Nat.le_of_ble_eq_true rfl) (by first | decide | omega) (by first | decide | omega) (S_X12_fit _ _ hc175) ?_
          refine r_istore C dL_law_675 (by first | decide | omega) rfl ?_
          refine r_aload_n C dL_law_677 rfl 4 rfl ?_
          obtain ⟨ht, hF⟩ := tst_some hF
          obtain ⟨r176, h177, hc178, hF⟩ := cl_some hF
          refine r_callV (As := []) C dL_law_678 V hT cal_X12_thrown cls_13 ml_L_92 im_X12_thrown se_X12_thrown ht (by first | decide | omega) rfl rfl (Nat.le_of_ble_eq_true rfl) (by first | decide | omega) (by first | decide | omega) (S_X12_thrown _ _ hc178) ?_
          refine r_iload C dL_law_681 1 rfl ?_
          refine r_icmp_eq (tgt := 688) C dL_law_683 (by first | decide | omega) hF (fun hF => ?_) (fun hF => ?_)
          · refine r_iload C dL_law_688 1 rfl ?_
            obtain ⟨k705_179, ek705_179, hF⟩ := jn_some hF
            have Jk705_179 : ∀  (h180 : PM), k705_179 h180 = some X → WP p l e room_1 s m args below meth c D cy base ρ h0 (126 + 41 * (513 - (fu + 1)) + 2) (14014 + 327 * (513 - (fu + 1)) + 12) 7 (lw_Z below args s) 705 [(0, .ref a0), (1, .ref 10), (2, .ref 200), (3, .ref 5), (4, .int v52)] [] h180 := by
              intro h180 hF
              rw [ek705_179] at hF
              refine r_goto (tgt := 1563) C dL_law_705 (by first | decide | omega) ?_
              exact WP.cnt (by first | decide | omega) (by first | decide | omega) (Jk1563_57  _ hF)
            refine r_if_ne (tgt := 705) C dL_law_690 (by first | decide | omega) hF (fun hF => ?_) (fun hF => ?_)
            · exact r_sub [2, 3, 4, 5, 6] rfl (Jk705_179  _ hF)
            · refine r_aload_n C dL_law_693 rfl 5 rfl ?_
              refine r_iconst (v := 0) C dL_law_694 (by first | decide | omega) ?_
              refine k_aJ C dL_law_695 hF (fun x181 hF => ?_)
              refine r_iload C dL_law_696 0 rfl ?_
              refine r_i2l C dL_law_698 ?_
              refine r_lcmp C dL_law_699 ?_
              refine r_if_eq (tgt := 705) C dL_law_700 (by first | decide | omega) hF (fun hF => ?_) (fun hF => ?_)
              · exact r_sub [2, 3, 4, 5, 6] rfl (Jk705_179  _ hF)
              · exact r_sub [] rfl (WP.cnt (by first | decide | omega) (by first | decide | omega) (Jk703  _ hF))
          · exact r_sub [] rfl (WP.cnt (by first | decide | omega) (by first | decide | omega) (Jk686  _ hF))
        rw [if_neg q7] at hF
        by_cases q8 : x56 = 8
        · rw [if_pos q8] at hF
          refine r_tableIn (tgt := 708) C dL_law_40 (by rw [q8]; decide) (by rw [q8]; decide) (by rw [q8] <;> rfl) (by first | decide | omega) ?_
          refine r_aload_n C dL_law_708 rfl 1 rfl ?_
          refine r_aload_n C dL_law_709 rfl 0 rfl ?_
          refine r_iload C dL_law_710 4 rfl ?_
          refine r_iconst (v := 1) C dL_law_712 (by first | decide | omega) ?_
          refine r_iadd C dL_law_713 ?_
          refine k_aS C dL_law_714 hF (fun x182 hF => ?_)
          refine r_aload_n C dL_law_715 rfl 3 rfl ?_
          obtain ⟨r183, h184, hc185, hF⟩ := cl_some hF
          refine r_callSW (As := [.ref 10, .int x182, .ref 5]) C dL_law_716 V hT NC cw_L_best ml_L_118 sm_L_best (by first | decide | omega) rfl rfl (Nat.le_of_ble_eq_true rfl) (by first | decide | omega) (by first | decide | omega) (S_L_best _ _ hc185) ?_
          refine r_istore C dL_law_719 (by first | decide | omega) rfl ?_
          refine r_aload_n C dL_law_721 rfl 3 rfl ?_
          refine r_aload_n C dL_law_722 rfl 1 rfl ?_
          refine r_iload C dL_law_723 5 rfl ?_
          refine r_iconst (v := 1) C dL_law_725 (by first | decide | omega) ?_
          refine r_iadd C dL_law_726 ?_
          refine k_aS C dL_law_727 hF (fun x186 hF => ?_)
          obtain ⟨ht, hF⟩ := tst_some hF
          obtain ⟨r187, h188, hc189, hF⟩ := cl_some hF
          refine r_callV (As := [.int x186]) C dL_law_728 V hT cal_X12_best cls_13 ml_L_120 im_X12_best se_X12_best ht (by first | decide | omega) rfl rfl (Nat.le_of_ble_eq_true rfl) (by first | decide | omega) (by first | decide | omega) (S_X12_best _ _ hc189) ?_
          refine r_istore C dL_law_731 (by first | decide | omega) rfl ?_
          refine r_aload_n C dL_law_733 rfl 4 rfl ?_
          obtain ⟨ht, hF⟩ := tst_some hF
          obtain ⟨r190, h191, hc192, hF⟩ := cl_some hF
          refine r_callV (As := []) C dL_law_734 V hT cal_X12_thrown cls_13 ml_L_92 im_X12_thrown se_X12_thrown ht (by first | decide | omega) rfl rfl (Nat.le_of_ble_eq_true rfl) (by first | decide | omega) (by first | decide | omega) (S_X12_thrown _ _ hc192) ?_
          refine r_iload C dL_law_737 1 rfl ?_
          refine r_icmp_eq (tgt := 744) C dL_law_739 (by first | decide | omega) hF (fun hF => ?_) (fun hF => ?_)
          · refine r_iload C dL_law_744 1 rfl ?_
            obtain ⟨k761_193, ek761_193, hF⟩ := jn_some hF
            have Jk761_193 : ∀  (h194 : PM), k761_193 h194 = some X → WP p l e room_1 s m args below meth c D cy base ρ h0 (126 + 41 * (513 - (fu + 1)) + 1) (14014 + 327 * (513 - (fu + 1)) + 6) 7 (lw_Z below args s) 761 [(0, .ref a0), (1, .ref 10), (2, .ref 200), (3, .ref 5), (4, .int v52)] [] h194 := by
              intro h194 hF
              rw [ek761_193] at hF
              refine r_goto (tgt := 1563) C dL_law_761 (by first | decide | omega) ?_
              exact WP.cnt (by first | decide | omega) (by first | decide | omega) (Jk1563_57  _ hF)
            refine r_if_ne (tgt := 761) C dL_law_746 (by first | decide | omega) hF (fun hF => ?_) (fun hF => ?_)
            · exact r_sub [2, 3, 4, 5, 6] rfl (Jk761_193  _ hF)
            · refine r_aload_n C dL_law_749 rfl 5 rfl ?_
              refine r_iconst (v := 0) C dL_law_750 (by first | decide | omega) ?_
              refine k_aJ C dL_law_751 hF (fun x195 hF => ?_)
              refine r_iload C dL_law_752 0 rfl ?_
              refine r_i2l C dL_law_754 ?_
              refine r_lcmp C dL_law_755 ?_
              refine r_if_eq (tgt := 761) C dL_law_756 (by first | decide | omega) hF (fun hF => ?_) (fun hF => ?_)
              · exact r_sub [2, 3, 4, 5, 6] rfl (Jk761_193  _ hF)
              · exact r_sub [] rfl (WP.cnt (by first | decide | omega) (by first | decide | omega) (Jk759  _ hF))
          · exact r_sub [] rfl (WP.cnt (by first | decide | omega) (by first | decide | omega) (Jk742  _ hF))
        rw [if_neg q8] at hF
        by_cases q9 : x56 = 9
        · rw [if_pos q9] at hF
          refine r_tableIn (tgt := 764) C dL_law_40 (by rw [q9]; decide) (by rw [q9]; decide) (by rw [q9] <;> rfl) (by first | decide | omega) ?_
          refine r_aload_n C dL_law_764 rfl 1 rfl ?_
          refine r_aload_n C dL_law_765 rfl 0 rfl ?_
          refine r_iload C dL_law_766 4 rfl ?_
          refine r_iconst (v := 1) C dL_law_768 (by first | decide | omega) ?_
          refine r_iadd C dL_law_769 ?_
          refine k_aS C dL_law_770 hF (fun x196 hF => ?_)
          refine r_aload_n C dL_law_771 rfl 0 rfl ?_
          refine r_iload C dL_law_772 4 rfl ?_
          refine r_iconst (v := 2) C dL_law_774 (by first | decide | omega) ?_
          refine r_iadd C dL_law_775 ?_
          refine k_aS C dL_law_776 hF (fun x197 hF => ?_)
          refine r_aload_n C dL_law_777 rfl 3 rfl ?_
          obtain ⟨r198, h199, hc200, hF⟩ := cl_some hF
          refine r_callSW (As := [.ref 10, .int x196, .int x197, .ref 5]) C dL_law_778 V hT NC cw_L_sawn ml_L_121 sm_L_sawn (by first | decide | omega) rfl rfl (Nat.le_of_ble_eq_true rfl) (by first | decide | omega) (by first | decide | omega) (S_L_sawn _ _ hc200) ?_
          refine r_istore C dL_law_781 (by first | decide | omega) rfl ?_
          refine r_aload_n C dL_law_783 rfl 3 rfl ?_
          refine r_aload_n C dL_law_784 rfl 1 rfl ?_
          refine r_iload C dL_law_785 5 rfl ?_
          refine r_iconst (v := 1) C dL_law_787 (by first | decide | omega) ?_
          refine r_iadd C dL_law_788 ?_
          refine k_aS C dL_law_789 hF (fun x201 hF => ?_)
          refine r_aload_n C dL_law_790 rfl 1 rfl ?_
          refine r_iload C dL_law_791 5 rfl ?_
          refine r_iconst (v := 2) C dL_law_793 (by first | decide | omega) ?_
          refine r_iadd C dL_law_794 ?_
          refine k_aS C dL_law_795 hF (fun x202 hF => ?_)
          obtain ⟨ht, hF⟩ := tst_some hF
          obtain ⟨r203, h204, hc205, hF⟩ := cl_some hF
          refine r_callV (As := [.int x201, .int x202]) C dL_law_796 V hT cal_X12_sawn cls_13 ml_L_123 im_X12_sawn se_X12_sawn ht (by first | decide | omega) rfl rfl (Nat.le_of_ble_eq_true rfl) (by first | decide | omega) (by first | decide | omega) (S_X12_sawn _ _ hc205) ?_
          refine r_istore C dL_law_799 (by first | decide | omega) rfl ?_
          refine r_aload_n C dL_law_801 rfl 4 rfl ?_
          obtain ⟨ht, hF⟩ := tst_some hF
          obtain ⟨r206, h207, hc208, hF⟩ := cl_some hF
          refine r_callV (As := []) C dL_law_802 V hT cal_X12_thrown cls_13 ml_L_92 im_X12_thrown se_X12_thrown ht (by first | decide | omega) rfl rfl (Nat.le_of_ble_eq_true rfl) (by first | decide | omega) (by first | decide | omega) (S_X12_thrown _ _ hc208) ?_
          refine r_iload C dL_law_805 1 rfl ?_
          refine r_icmp_eq (tgt := 812) C dL_law_807 (by first | decide | omega) hF (fun hF => ?_) (fun hF => ?_)
          · refine r_iload C dL_law_812 1 rfl ?_
            obtain ⟨k829_209, ek829_209, hF⟩ := jn_some hF
            have Jk829_209 : ∀  (h210 : PM), k829_209 h210 = some X → WP p l e room_1 s m args below meth c D cy base ρ h0 (126 + 41 * (513 - (fu + 1)) + 2) (14014 + 327 * (513 - (fu + 1)) + 12) 7 (lw_Z below args s) 829 [(0, .ref a0), (1, .ref 10), (2, .ref 200), (3, .ref 5), (4, .int v52)] [] h210 := by
              intro h210 hF
              rw [ek829_209] at hF
              refine r_goto (tgt := 1563) C dL_law_829 (by first | decide | omega) ?_
              exact WP.cnt (by first | decide | omega) (by first | decide | omega) (Jk1563_57  _ hF)
            refine r_if_ne (tgt := 829) C dL_law_814 (by first | decide | omega) hF (fun hF => ?_) (fun hF => ?_)
            · exact r_sub [2, 3, 4, 5, 6] rfl (Jk829_209  _ hF)
            · refine r_aload_n C dL_law_817 rfl 5 rfl ?_
              refine r_iconst (v := 0) C dL_law_818 (by first | decide | omega) ?_
              refine k_aJ C dL_law_819 hF (fun x211 hF => ?_)
              refine r_iload C dL_law_820 0 rfl ?_
              refine r_i2l C dL_law_822 ?_
              refine r_lcmp C dL_law_823 ?_
              refine r_if_eq (tgt := 829) C dL_law_824 (by first | decide | omega) hF (fun hF => ?_) (fun hF => ?_)
              · exact r_sub [2, 3, 4, 5, 6] rfl (Jk829_209  _ hF)
              · exact r_sub [] rfl (WP.cnt (by first | decide | omega) (by first | decide | omega) (Jk827  _ hF))
          · exact r_sub [] rfl (WP.cnt (by first | decide | omega) (by first | decide | omega) (Jk810  _ hF))
        rw [if_neg q9] at hF
        by_cases q10 : x56 = 10
        · rw [if_pos q10] at hF
          refine r_tableIn (tgt := 832) C dL_law_40 (by rw [q10]; decide) (by rw [q10]; decide) (by rw [q10] <;> rfl) (by first | decide | omega) ?_
          refine r_aload_n C dL_law_832 rfl 1 rfl ?_
          refine r_aload_n C dL_law_833 rfl 0 rfl ?_
          refine r_iload C dL_law_834 4 rfl ?_
          refine r_iconst (v := 1) C dL_law_836 (by first | decide | omega) ?_
          refine r_iadd C dL_law_837 ?_
          refine k_aS C dL_law_838 hF (fun x212 hF => ?_)
          refine r_aload_n C dL_law_839 rfl 0 rfl ?_
          refine r_iload C dL_law_840 4 rfl ?_
          refine r_iconst (v := 2) C dL_law_842 (by first | decide | omega) ?_
          refine r_iadd C dL_law_843 ?_
          refine k_aS C dL_law_844 hF (fun x213 hF => ?_)
          refine r_aload_n C dL_law_845 rfl 0 rfl ?_
          refine r_iload C dL_law_846 4 rfl ?_
          refine r_iconst (v := 3) C dL_law_848 (by first | decide | omega) ?_
          refine r_iadd C dL_law_849 ?_
          refine k_aS C dL_law_850 hF (fun x214 hF => ?_)
          refine r_aload_n C dL_law_851 rfl 3 rfl ?_
          obtain ⟨r215, h216, hc217, hF⟩ := cl_some hF
          refine r_callSW (As := [.ref 10, .int x212, .int x213, .int x214, .ref 5]) C dL_law_852 V hT NC cw_L_cut ml_L_124 sm_L_cut (by first | decide | omega) rfl rfl (Nat.le_of_ble_eq_true rfl) (by first | decide | omega) (by first | decide | omega) (S_L_cut _ _ hc217) ?_
          refine r_istore C dL_law_855 (by first | decide | omega) rfl ?_
          refine r_aload_n C dL_law_857 rfl 3 rfl ?_
          refine r_aload_n C dL_law_858 rfl 1 rfl ?_
          refine r_iload C dL_law_859 5 rfl ?_
          refine r_iconst (v := 1) C dL_law_861 (by first | decide | omega) ?_
          refine r_iadd C dL_law_862 ?_
          refine k_aS C dL_law_863 hF (fun x218 hF => ?_)
          refine r_aload_n C dL_law_864 rfl 1 rfl ?_
          refine r_iload C dL_law_865 5 rfl ?_
          refine r_iconst (v := 2) C dL_law_867 (by first | decide | omega) ?_
          refine r_iadd C dL_law_868 ?_
          refine k_aS C dL_law_869 hF (fun x219 hF => ?_)
          refine r_aload_n C dL_law_870 rfl 1 rfl ?_
          refine r_iload C dL_law_871 5 rfl ?_
          refine r_iconst (v := 3) C dL_law_873 (by first | decide | omega) ?_
          refine r_iadd C dL_law_874 ?_
          refine k_aS C dL_law_875 hF (fun x220 hF => ?_)
          obtain ⟨ht, hF⟩ := tst_some hF
          obtain ⟨r221, h222, hc223, hF⟩ := cl_some hF
          refine r_callV (As := [.int x218, .int x219, .int x220]) C dL_law_876 V hT cal_X12_cut cls_13 ml_L_126 im_X12_cut se_X12_cut ht (by first | decide | omega) rfl rfl (Nat.le_of_ble_eq_true rfl) (by first | decide | omega) (by first | decide | omega) (S_X12_cut _ _ hc223) ?_
          refine r_istore C dL_law_879 (by first | decide | omega) rfl ?_
          refine r_aload_n C dL_law_881 rfl 4 rfl ?_
          obtain ⟨ht, hF⟩ := tst_some hF
          obtain ⟨r224, h225, hc226, hF⟩ := cl_some hF
          refine r_callV (As := []) C dL_law_882 V hT cal_X12_thrown cls_13 ml_L_92 im_X12_thrown se_X12_thrown ht (by first | decide | omega) rfl rfl (Nat.le_of_ble_eq_true rfl) (by first | decide | omega) (by first | decide | omega) (S_X12_thrown _ _ hc226) ?_
          refine r_iload C dL_law_885 1 rfl ?_
          refine r_icmp_eq (tgt := 892) C dL_law_887 (by first | decide | omega) hF (fun hF => ?_) (fun hF => ?_)
          · refine r_iload C dL_law_892 1 rfl ?_
            obtain ⟨k909_227, ek909_227, hF⟩ := jn_some hF
            have Jk909_227 : ∀  (h228 : PM), k909_227 h228 = some X → WP p l e room_1 s m args below meth c D cy base ρ h0 (126 + 41 * (513 - (fu + 1)) + 2) (14014 + 327 * (513 - (fu + 1)) + 12) 7 (lw_Z below args s) 909 [(0, .ref a0), (1, .ref 10), (2, .ref 200), (3, .ref 5), (4, .int v52)] [] h228 := by
              intro h228 hF
              rw [ek909_227] at hF
              refine r_goto (tgt := 1563) C dL_law_909 (by first | decide | omega) ?_
              exact WP.cnt (by first | decide | omega) (by first | decide | omega) (Jk1563_57  _ hF)
            refine r_if_ne (tgt := 909) C dL_law_894 (by first | decide | omega) hF (fun hF => ?_) (fun hF => ?_)
            · exact r_sub [2, 3, 4, 5, 6] rfl (Jk909_227  _ hF)
            · refine r_aload_n C dL_law_897 rfl 5 rfl ?_
              refine r_iconst (v := 0) C dL_law_898 (by first | decide | omega) ?_
              refine k_aJ C dL_law_899 hF (fun x229 hF => ?_)
              refine r_iload C dL_law_900 0 rfl ?_
              refine r_i2l C dL_law_902 ?_
              refine r_lcmp C dL_law_903 ?_
              refine r_if_eq (tgt := 909) C dL_law_904 (by first | decide | omega) hF (fun hF => ?_) (fun hF => ?_)
              · exact r_sub [2, 3, 4, 5, 6] rfl (Jk909_227  _ hF)
              · exact r_sub [] rfl (WP.cnt (by first | decide | omega) (by first | decide | omega) (Jk907  _ hF))
          · exact r_sub [] rfl (WP.cnt (by first | decide | omega) (by first | decide | omega) (Jk890  _ hF))
        rw [if_neg q10] at hF
        by_cases q11 : x56 = 11
        · rw [if_pos q11] at hF
          refine r_tableIn (tgt := 912) C dL_law_40 (by rw [q11]; decide) (by rw [q11]; decide) (by rw [q11] <;> rfl) (by first | decide | omega) ?_
          refine r_aload_n C dL_law_912 rfl 1 rfl ?_
          refine r_aload_n C dL_law_913 rfl 0 rfl ?_
          refine r_iload C dL_law_914 4 rfl ?_
          refine r_iconst (v := 1) C dL_law_916 (by first | decide | omega) ?_
          refine r_iadd C dL_law_917 ?_
          refine k_aS C dL_law_918 hF (fun x230 hF => ?_)
          refine r_aload_n C dL_law_919 rfl 3 rfl ?_
          obtain ⟨r231, h232, hc233, hF⟩ := cl_some hF
          refine r_callSW (As := [.ref 10, .int x230, .ref 5]) C dL_law_920 V hT NC cw_L_done ml_L_127 sm_L_done (by first | decide | omega) rfl rfl (Nat.le_of_ble_eq_true rfl) (by first | decide | omega) (by first | decide | omega) (S_L_done _ _ hc233) ?_
          refine r_istore C dL_law_923 (by first | decide | omega) rfl ?_
          refine r_aload_n C dL_law_925 rfl 3 rfl ?_
          refine r_aload_n C dL_law_926 rfl 1 rfl ?_
          refine r_iload C dL_law_927 5 rfl ?_
          refine r_iconst (v := 1) C dL_law_929 (by first | decide | omega) ?_
          refine r_iadd C dL_law_930 ?_
          refine k_aS C dL_law_931 hF (fun x234 hF => ?_)
          obtain ⟨ht, hF⟩ := tst_some hF
          obtain ⟨r235, h236, hc237, hF⟩ := cl_some hF
          refine r_callV (As := [.int x234]) C dL_law_932 V hT cal_X12_done cls_13 ml_L_129 im_X12_done se_X12_done ht (by first | decide | omega) rfl rfl (Nat.le_of_ble_eq_true rfl) (by first | decide | omega) (by first | decide | omega) (S_X12_done _ _ hc237) ?_
          refine r_istore C dL_law_935 (by first | decide | omega) rfl ?_
          refine r_aload_n C dL_law_937 rfl 4 rfl ?_
          obtain ⟨ht, hF⟩ := tst_some hF
          obtain ⟨r238, h239, hc240, hF⟩ := cl_some hF
          refine r_callV (As := []) C dL_law_938 V hT cal_X12_thrown cls_13 ml_L_92 im_X12_thrown se_X12_thrown ht (by first | decide | omega) rfl rfl (Nat.le_of_ble_eq_true rfl) (by first | decide | omega) (by first | decide | omega) (S_X12_thrown _ _ hc240) ?_
          refine r_iload C dL_law_941 1 rfl ?_
          refine r_icmp_eq (tgt := 948) C dL_law_943 (by first | decide | omega) hF (fun hF => ?_) (fun hF => ?_)
          · refine r_iload C dL_law_948 1 rfl ?_
            obtain ⟨k965_241, ek965_241, hF⟩ := jn_some hF
            have Jk965_241 : ∀  (h242 : PM), k965_241 h242 = some X → WP p l e room_1 s m args below meth c D cy base ρ h0 (126 + 41 * (513 - (fu + 1)) + 11) (14014 + 327 * (513 - (fu + 1)) + 208) 7 (lw_Z below args s) 965 [(0, .ref a0), (1, .ref 10), (2, .ref 200), (3, .ref 5), (4, .int v52)] [] h242 := by
              intro h242 hF
              rw [ek965_241] at hF
              refine r_goto (tgt := 1563) C dL_law_965 (by first | decide | omega) ?_
              exact WP.cnt (by first | decide | omega) (by first | decide | omega) (Jk1563_57  _ hF)
            refine r_if_ne (tgt := 965) C dL_law_950 (by first | decide | omega) hF (fun hF => ?_) (fun hF => ?_)
            · exact r_sub [2, 3, 4, 5, 6] rfl (Jk965_241  _ hF)
            · refine r_aload_n C dL_law_953 rfl 5 rfl ?_
              refine r_iconst (v := 0) C dL_law_954 (by first | decide | omega) ?_
              refine k_aJ C dL_law_955 hF (fun x243 hF => ?_)
              refine r_iload C dL_law_956 0 rfl ?_
              refine r_i2l C dL_law_958 ?_
              refine r_lcmp C dL_law_959 ?_
              refine r_if_eq (tgt := 965) C dL_law_960 (by first | decide | omega) hF (fun hF => ?_) (fun hF => ?_)
              · exact r_sub [2, 3, 4, 5, 6] rfl (Jk965_241  _ hF)
              · exact r_sub [] rfl (WP.cnt (by first | decide | omega) (by first | decide | omega) (Jk963  _ hF))
          · exact r_sub [] rfl (WP.cnt (by first | decide | omega) (by first | decide | omega) (Jk946  _ hF))
        rw [if_neg q11] at hF
        by_cases q12 : x56 = 12
        · rw [if_pos q12] at hF
          refine r_tableIn (tgt := 968) C dL_law_40 (by rw [q12]; decide) (by rw [q12]; decide) (by rw [q12] <;> rfl) (by first | decide | omega) ?_
          refine r_aload_n C dL_law_968 rfl 1 rfl ?_
          refine r_aload_n C dL_law_969 rfl 0 rfl ?_
          refine r_iload C dL_law_970 4 rfl ?_
          refine r_iconst (v := 1) C dL_law_972 (by first | decide | omega) ?_
          refine r_iadd C dL_law_973 ?_
          refine k_aS C dL_law_974 hF (fun x244 hF => ?_)
          refine r_aload_n C dL_law_975 rfl 0 rfl ?_
          refine r_iload C dL_law_976 4 rfl ?_
          refine r_iconst (v := 2) C dL_law_978 (by first | decide | omega) ?_
          refine r_iadd C dL_law_979 ?_
          refine k_aS C dL_law_980 hF (fun x245 hF => ?_)
          refine r_aload_n C dL_law_981 rfl 0 rfl ?_
          refine r_iload C dL_law_982 4 rfl ?_
          refine r_iconst (v := 3) C dL_law_984 (by first | decide | omega) ?_
          refine r_iadd C dL_law_985 ?_
          refine k_aS C dL_law_986 hF (fun x246 hF => ?_)
          refine r_aload_n C dL_law_987 rfl 3 rfl ?_
          obtain ⟨r247, h248, hc249, hF⟩ := cl_some hF
          refine r_callSW (As := [.ref 10, .int x244, .int x245, .int x246, .ref 5]) C dL_law_988 V hT NC cw_L_facet ml_L_130 sm_L_facet (by first | decide | omega) rfl rfl (Nat.le_of_ble_eq_true rfl) (by first | decide | omega) (by first | decide | omega) (S_L_facet _ _ hc249) ?_
          refine r_istore C dL_law_991 (by first | decide | omega) rfl ?_
          refine r_aload_n C dL_law_993 rfl 3 rfl ?_
          refine r_aload_n C dL_law_994 rfl 1 rfl ?_
          refine r_iload C dL_law_995 5 rfl ?_
          refine r_iconst (v := 1) C dL_law_997 (by first | decide | omega) ?_
          refine r_iadd C dL_law_998 ?_
          refine k_aS C dL_law_999 hF (fun x250 hF => ?_)
          refine r_aload_n C dL_law_1000 rfl 1 rfl ?_
          refine r_iload C dL_law_1001 5 rfl ?_
          refine r_iconst (v := 2) C dL_law_1003 (by first | decide | omega) ?_
          refine r_iadd C dL_law_1004 ?_
          refine k_aS C dL_law_1005 hF (fun x251 hF => ?_)
          refine r_aload_n C dL_law_1006 rfl 1 rfl ?_
          refine r_iload C dL_law_1007 5 rfl ?_
          refine r_iconst (v := 3) C dL_law_1009 (by first | decide | omega) ?_
          refine r_iadd C dL_law_1010 ?_
          refine k_aS C dL_law_1011 hF (fun x252 hF => ?_)
          obtain ⟨ht, hF⟩ := tst_some hF
          obtain ⟨r253, h254, hc255, hF⟩ := cl_some hF
          refine r_callV (As := [.int x250, .int x251, .int x252]) C dL_law_1012 V hT cal_X12_facet cls_13 ml_L_132 im_X12_facet se_X12_facet ht (by first | decide | omega) rfl rfl (Nat.le_of_ble_eq_true rfl) (by first | decide | omega) (by first | decide | omega) (S_X12_facet _ _ hc255) ?_
          refine r_istore C dL_law_1015 (by first | decide | omega) rfl ?_
          refine r_aload_n C dL_law_1017 rfl 4 rfl ?_
          obtain ⟨ht, hF⟩ := tst_some hF
          obtain ⟨r256, h257, hc258, hF⟩ := cl_some hF
          refine r_callV (As := []) C dL_law_1018 V hT cal_X12_thrown cls_13 ml_L_92 im_X12_thrown se_X12_thrown ht (by first | decide | omega) rfl rfl (Nat.le_of_ble_eq_true rfl) (by first | decide | omega) (by first | decide | omega) (S_X12_thrown _ _ hc258) ?_
          refine r_iload C dL_law_1021 1 rfl ?_
          refine r_icmp_eq (tgt := 1028) C dL_law_1023 (by first | decide | omega) hF (fun hF => ?_) (fun hF => ?_)
          · refine r_iload C dL_law_1028 1 rfl ?_
            obtain ⟨k1045_259, ek1045_259, hF⟩ := jn_some hF
            have Jk1045_259 : ∀  (h260 : PM), k1045_259 h260 = some X → WP p l e room_1 s m args below meth c D cy base ρ h0 (126 + 41 * (513 - (fu + 1)) + 2) (14014 + 327 * (513 - (fu + 1)) + 12) 7 (lw_Z below args s) 1045 [(0, .ref a0), (1, .ref 10), (2, .ref 200), (3, .ref 5), (4, .int v52)] [] h260 := by
              intro h260 hF
              rw [ek1045_259] at hF
              refine r_goto (tgt := 1563) C dL_law_1045 (by first | decide | omega) ?_
              exact WP.cnt (by first | decide | omega) (by first | decide | omega) (Jk1563_57  _ hF)
            refine r_if_ne (tgt := 1045) C dL_law_1030 (by first | decide | omega) hF (fun hF => ?_) (fun hF => ?_)
            · exact r_sub [2, 3, 4, 5, 6] rfl (Jk1045_259  _ hF)
            · refine r_aload_n C dL_law_1033 rfl 5 rfl ?_
              refine r_iconst (v := 0) C dL_law_1034 (by first | decide | omega) ?_
              refine k_aJ C dL_law_1035 hF (fun x261 hF => ?_)
              refine r_iload C dL_law_1036 0 rfl ?_
              refine r_i2l C dL_law_1038 ?_
              refine r_lcmp C dL_law_1039 ?_
              refine r_if_eq (tgt := 1045) C dL_law_1040 (by first | decide | omega) hF (fun hF => ?_) (fun hF => ?_)
              · exact r_sub [2, 3, 4, 5, 6] rfl (Jk1045_259  _ hF)
              · exact r_sub [] rfl (WP.cnt (by first | decide | omega) (by first | decide | omega) (Jk1043  _ hF))
          · exact r_sub [] rfl (WP.cnt (by first | decide | omega) (by first | decide | omega) (Jk1026  _ hF))
        rw [if_neg q12] at hF
        by_cases q13 : x56 = 13
        · rw [if_pos q13] at hF
          refine r_tableIn (tgt := 1048) C dL_law_40 (by rw [q13]; decide) (by rw [q13]; decide) (by rw [q13] <;> rfl) (by first | decide | omega) ?_
          refine r_aload_n C dL_law_1048 rfl 1 rfl ?_
          refine r_aload_n C dL_law_1049 rfl 0 rfl ?_
          refine r_iload C dL_law_1050 4 rfl ?_
          refine r_iconst (v := 1) C dL_law_1052 (by first | decide | omega) ?_
          refine r_iadd C dL_law_1053 ?_
          refine k_aS C dL_law_1054 hF (fun x262 hF => ?_)
          refine r_aload_n C dL_law_1055 rfl 3 rfl ?_
          obtain ⟨r263, h264, hc265, hF⟩ := cl_some hF
          refine r_callSW (As := [.ref 10, .int x262, .ref 5]) C dL_law_1056 V hT NC cw_L_round ml_L_133 sm_L_round (by first | decide | omega) rfl rfl (Nat.le_of_ble_eq_true rfl) (by first | decide | omega) (by first | decide | omega) (S_L_round _ _ hc265) ?_
          refine r_istore C dL_law_1059 (by first | decide | omega) rfl ?_
          refine r_aload_n C dL_law_1061 rfl 3 rfl ?_
          refine r_aload_n C dL_law_1062 rfl 1 rfl ?_
          refine r_iload C dL_law_1063 5 rfl ?_
          refine r_iconst (v := 1) C dL_law_1065 (by first | decide | omega) ?_
          refine r_iadd C dL_law_1066 ?_
          refine k_aS C dL_law_1067 hF (fun x266 hF => ?_)
          obtain ⟨ht, hF⟩ := tst_some hF
          obtain ⟨r267, h268, hc269, hF⟩ := cl_some hF
          refine r_callV (As := [.int x266]) C dL_law_1068 V hT cal_X12_round cls_13 ml_L_135 im_X12_round se_X12_round ht (by first | decide | omega) rfl rfl (Nat.le_of_ble_eq_true rfl) (by first | decide | omega) (by first | decide | omega) (S_X12_round _ _ hc269) ?_
          refine r_istore C dL_law_1071 (by first | decide | omega) rfl ?_
          refine r_aload_n C dL_law_1073 rfl 4 rfl ?_
          obtain ⟨ht, hF⟩ := tst_some hF
          obtain ⟨r270, h271, hc272, hF⟩ := cl_some hF
          refine r_callV (As := []) C dL_law_1074 V hT cal_X12_thrown cls_13 ml_L_92 im_X12_thrown se_X12_thrown ht (by first | decide | omega) rfl rfl (Nat.le_of_ble_eq_true rfl) (by first | decide | omega) (by first | decide | omega) (S_X12_thrown _ _ hc272) ?_
          refine r_iload C dL_law_1077 1 rfl ?_
          refine r_icmp_eq (tgt := 1084) C dL_law_1079 (by first | decide | omega) hF (fun hF => ?_) (fun hF => ?_)
          · refine r_iload C dL_law_1084 1 rfl ?_
            obtain ⟨k1101_273, ek1101_273, hF⟩ := jn_some hF
            have Jk1101_273 : ∀  (h274 : PM), k1101_273 h274 = some X → WP p l e room_1 s m args below meth c D cy base ρ h0 (126 + 41 * (513 - (fu + 1)) + 1) (14014 + 327 * (513 - (fu + 1)) + 6) 7 (lw_Z below args s) 1101 [(0, .ref a0), (1, .ref 10), (2, .ref 200), (3, .ref 5), (4, .int v52)] [] h274 := by
              intro h274 hF
              rw [ek1101_273] at hF
              refine r_goto (tgt := 1563) C dL_law_1101 (by first | decide | omega) ?_
              exact WP.cnt (by first | decide | omega) (by first | decide | omega) (Jk1563_57  _ hF)
            refine r_if_ne (tgt := 1101) C dL_law_1086 (by first | decide | omega) hF (fun hF => ?_) (fun hF => ?_)
            · exact r_sub [2, 3, 4, 5, 6] rfl (Jk1101_273  _ hF)
            · refine r_aload_n C dL_law_1089 rfl 5 rfl ?_
              refine r_iconst (v := 0) C dL_law_1090 (by first | decide | omega) ?_
              refine k_aJ C dL_law_1091 hF (fun x275 hF => ?_)
              refine r_iload C dL_law_1092 0 rfl ?_
              refine r_i2l C dL_law_1094 ?_
              refine r_lcmp C dL_law_1095 ?_
              refine r_if_eq (tgt := 1101) C dL_law_1096 (by first | decide | omega) hF (fun hF => ?_) (fun hF => ?_)
              · exact r_sub [2, 3, 4, 5, 6] rfl (Jk1101_273  _ hF)
              · exact r_sub [] rfl (WP.cnt (by first | decide | omega) (by first | decide | omega) (Jk1099  _ hF))
          · exact r_sub [] rfl (WP.cnt (by first | decide | omega) (by first | decide | omega) (Jk1082  _ hF))
        rw [if_neg q13] at hF
        by_cases q14 : x56 = 14
        · rw [if_pos q14] at hF
          refine r_tableIn (tgt := 1104) C dL_law_40 (by rw [q14]; decide) (by rw [q14]; decide) (by rw [q14] <;> rfl) (by first | decide | omega) ?_
          refine r_aload_n C dL_law_1104 rfl 1 rfl ?_
          refine r_aload_n C dL_law_1105 rfl 0 rfl ?_
          refine r_iload C dL_law_1106 4 rfl ?_
          refine r_iconst (v := 1) C dL_law_1108 (by first | decide | omega) ?_
          refine r_iadd C dL_law_1109 ?_
          refine k_aS C dL_law_1110 hF (fun x276 hF => ?_)
          refine r_aload_n C dL_law_1111 rfl 0 rfl ?_
          refine r_iload C dL_law_1112 4 rfl ?_
          refine r_iconst (v := 2) C dL_law_1114 (by first | decide | omega) ?_
          refine r_iadd C dL_law_1115 ?_
          refine k_aS C dL_law_1116 hF (fun x277 hF => ?_)
          refine r_aload_n C dL_law_1117 rfl 3 rfl ?_
          obtain ⟨r278, h279, hc280, hF⟩ := cl_some hF
          refine r_callSW (As := [.ref 10, .int x276, .int x277, .ref 5]) C dL_law_1118 V hT NC cw_L_plan ml_L_136 sm_L_plan (by first | decide | omega) rfl rfl (Nat.le_of_ble_eq_true rfl) (by first | decide | omega) (by first | decide | omega) (S_L_plan _ _ hc280) ?_
          refine r_istore C dL_law_1121 (by first | decide | omega) rfl ?_
          refine r_aload_n C dL_law_1123 rfl 3 rfl ?_
          refine r_aload_n C dL_law_1124 rfl 1 rfl ?_
          refine r_iload C dL_law_1125 5 rfl ?_
          refine r_iconst (v := 1) C dL_law_1127 (by first | decide | omega) ?_
          refine r_iadd C dL_law_1128 ?_
          refine k_aS C dL_law_1129 hF (fun x281 hF => ?_)
          refine r_aload_n C dL_law_1130 rfl 1 rfl ?_
          refine r_iload C dL_law_1131 5 rfl ?_
          refine r_iconst (v := 2) C dL_law_1133 (by first | decide | omega) ?_
          refine r_iadd C dL_law_1134 ?_
          refine k_aS C dL_law_1135 hF (fun x282 hF => ?_)
          obtain ⟨ht, hF⟩ := tst_some hF
          obtain ⟨r283, h284, hc285, hF⟩ := cl_some hF
          refine r_callV (As := [.int x281, .int x282]) C dL_law_1136 V hT cal_X12_plan cls_13 ml_L_138 im_X12_plan se_X12_plan ht (by first | decide | omega) rfl rfl (Nat.le_of_ble_eq_true rfl) (by first | decide | omega) (by first | decide | omega) (S_X12_plan _ _ hc285) ?_
          refine r_istore C dL_law_1139 (by first | decide | omega) rfl ?_
          refine r_aload_n C dL_law_1141 rfl 4 rfl ?_
          obtain ⟨ht, hF⟩ := tst_some hF
          obtain ⟨r286, h287, hc288, hF⟩ := cl_some hF
          refine r_callV (As := []) C dL_law_1142 V hT cal_X12_thrown cls_13 ml_L_92 im_X12_thrown se_X12_thrown ht (by first | decide | omega) rfl rfl (Nat.le_of_ble_eq_true rfl) (by first | decide | omega) (by first | decide | omega) (S_X12_thrown _ _ hc288) ?_
          refine r_iload C dL_law_1145 1 rfl ?_
          refine r_icmp_eq (tgt := 1152) C dL_law_1147 (by first | decide | omega) hF (fun hF => ?_) (fun hF => ?_)
          · refine r_iload C dL_law_1152 1 rfl ?_
            obtain ⟨k1169_289, ek1169_289, hF⟩ := jn_some hF
            have Jk1169_289 : ∀  (h290 : PM), k1169_289 h290 = some X → WP p l e room_1 s m args below meth c D cy base ρ h0 (126 + 41 * (513 - (fu + 1)) + 1) (14014 + 327 * (513 - (fu + 1)) + 6) 7 (lw_Z below args s) 1169 [(0, .ref a0), (1, .ref 10), (2, .ref 200), (3, .ref 5), (4, .int v52)] [] h290 := by
              intro h290 hF
              rw [ek1169_289] at hF
              refine r_goto (tgt := 1563) C dL_law_1169 (by first | decide | omega) ?_
              exact WP.cnt (by first | decide | omega) (by first | decide | omega) (Jk1563_57  _ hF)
            refine r_if_ne (tgt := 1169) C dL_law_1154 (by first | decide | omega) hF (fun hF => ?_) (fun hF => ?_)
            · exact r_sub [2, 3, 4, 5, 6] rfl (Jk1169_289  _ hF)
            · refine r_aload_n C dL_law_1157 rfl 5 rfl ?_
              refine r_iconst (v := 0) C dL_law_1158 (by first | decide | omega) ?_
              refine k_aJ C dL_law_1159 hF (fun x291 hF => ?_)
              refine r_iload C dL_law_1160 0 rfl ?_
              refine r_i2l C dL_law_1162 ?_
              refine r_lcmp C dL_law_1163 ?_
              refine r_if_eq (tgt := 1169) C dL_law_1164 (by first | decide | omega) hF (fun hF => ?_) (fun hF => ?_)
              · exact r_sub [2, 3, 4, 5, 6] rfl (Jk1169_289  _ hF)
              · exact r_sub [] rfl (WP.cnt (by first | decide | omega) (by first | decide | omega) (Jk1167  _ hF))
          · exact r_sub [] rfl (WP.cnt (by first | decide | omega) (by first | decide | omega) (Jk1150  _ hF))
        rw [if_neg q14] at hF
        by_cases q15 : x56 = 15
        · rw [if_pos q15] at hF
          refine r_tableIn (tgt := 1172) C dL_law_40 (by rw [q15]; decide) (by rw [q15]; decide) (by rw [q15] <;> rfl) (by first | decide | omega) ?_
          refine r_aload_n C dL_law_1172 rfl 1 rfl ?_
          refine r_aload_n C dL_law_1173 rfl 0 rfl ?_
          refine r_iload C dL_law_1174 4 rfl ?_
          refine r_iconst (v := 1) C dL_law_1176 (by first | decide | omega) ?_
          refine r_iadd C dL_law_1177 ?_
          refine k_aS C dL_law_1178 hF (fun x292 hF => ?_)
          refine r_aload_n C dL_law_1179 rfl 3 rfl ?_
          obtain ⟨r293, h294, hc295, hF⟩ := cl_some hF
          refine r_callSW (As := [.ref 10, .int x292, .ref 5]) C dL_law_1180 V hT NC cw_L_polish ml_L_139 sm_L_polish (by first | decide | omega) rfl rfl (Nat.le_of_ble_eq_true rfl) (by first | decide | omega) (by first | decide | omega) (S_L_polish _ _ hc295) ?_
          refine r_istore C dL_law_1183 (by first | decide | omega) rfl ?_
          refine r_aload_n C dL_law_1185 rfl 3 rfl ?_
          refine r_aload_n C dL_law_1186 rfl 1 rfl ?_
          refine r_iload C dL_law_1187 5 rfl ?_
          refine r_iconst (v := 1) C dL_law_1189 (by first | decide | omega) ?_
          refine r_iadd C dL_law_1190 ?_
          refine k_aS C dL_law_1191 hF (fun x296 hF => ?_)
          obtain ⟨ht, hF⟩ := tst_some hF
          obtain ⟨r297, h298, hc299, hF⟩ := cl_some hF
          refine r_callV (As := [.int x296]) C dL_law_1192 V hT cal_X12_polish cls_13 ml_L_141 im_X12_polish se_X12_polish ht (by first | decide | omega) rfl rfl (Nat.le_of_ble_eq_true rfl) (by first | decide | omega) (by first | decide | omega) (S_X12_polish _ _ hc299) ?_
          refine r_istore C dL_law_1195 (by first | decide | omega) rfl ?_
          refine r_aload_n C dL_law_1197 rfl 4 rfl ?_
          obtain ⟨ht, hF⟩ := tst_some hF
          obtain ⟨r300, h301, hc302, hF⟩ := cl_some hF
          refine r_callV (As := []) C dL_law_1198 V hT cal_X12_thrown cls_13 ml_L_92 im_X12_thrown se_X12_thrown ht (by first | decide | omega) rfl rfl (Nat.le_of_ble_eq_true rfl) (by first | decide | omega) (by first | decide | omega) (S_X12_thrown _ _ hc302) ?_
          refine r_iload C dL_law_1201 1 rfl ?_
          refine r_icmp_eq (tgt := 1208) C dL_law_1203 (by first | decide | omega) hF (fun hF => ?_) (fun hF => ?_)
          · refine r_iload C dL_law_1208 1 rfl ?_
            obtain ⟨k1225_303, ek1225_303, hF⟩ := jn_some hF
            have Jk1225_303 : ∀  (h304 : PM), k1225_303 h304 = some X → WP p l e room_1 s m args below meth c D cy base ρ h0 (126 + 41 * (513 - (fu + 1)) + 1) (14014 + 327 * (513 - (fu + 1)) + 6) 7 (lw_Z below args s) 1225 [(0, .ref a0), (1, .ref 10), (2, .ref 200), (3, .ref 5), (4, .int v52)] [] h304 := by
              intro h304 hF
              rw [ek1225_303] at hF
              refine r_goto (tgt := 1563) C dL_law_1225 (by first | decide | omega) ?_
              exact WP.cnt (by first | decide | omega) (by first | decide | omega) (Jk1563_57  _ hF)
            refine r_if_ne (tgt := 1225) C dL_law_1210 (by first | decide | omega) hF (fun hF => ?_) (fun hF => ?_)
            · exact r_sub [2, 3, 4, 5, 6] rfl (Jk1225_303  _ hF)
            · refine r_aload_n C dL_law_1213 rfl 5 rfl ?_
              refine r_iconst (v := 0) C dL_law_1214 (by first | decide | omega) ?_
              refine k_aJ C dL_law_1215 hF (fun x305 hF => ?_)
              refine r_iload C dL_law_1216 0 rfl ?_
              refine r_i2l C dL_law_1218 ?_
              refine r_lcmp C dL_law_1219 ?_
              refine r_if_eq (tgt := 1225) C dL_law_1220 (by first | decide | omega) hF (fun hF => ?_) (fun hF => ?_)
              · exact r_sub [2, 3, 4, 5, 6] rfl (Jk1225_303  _ hF)
              · exact r_sub [] rfl (WP.cnt (by first | decide | omega) (by first | decide | omega) (Jk1223  _ hF))
          · exact r_sub [] rfl (WP.cnt (by first | decide | omega) (by first | decide | omega) (Jk1206  _ hF))
        rw [if_neg q15] at hF
        by_cases q16 : x56 = 16
        · rw [if_pos q16] at hF
          refine r_tableIn (tgt := 1228) C dL_law_40 (by rw [q16]; decide) (by rw [q16]; decide) (by rw [q16] <;> rfl) (by first | decide | omega) ?_
          refine r_aload_n C dL_law_1228 rfl 1 rfl ?_
          refine r_aload_n C dL_law_1229 rfl 0 rfl ?_
          refine r_iload C dL_law_1230 4 rfl ?_
          refine r_iconst (v := 1) C dL_law_1232 (by first | decide | omega) ?_
          refine r_iadd C dL_law_1233 ?_
          refine k_aS C dL_law_1234 hF (fun x306 hF => ?_)
          refine r_aload_n C dL_law_1235 rfl 0 rfl ?_
          refine r_iload C dL_law_1236 4 rfl ?_
          refine r_iconst (v := 2) C dL_law_1238 (by first | decide | omega) ?_
          refine r_iadd C dL_law_1239 ?_
          refine k_aS C dL_law_1240 hF (fun x307 hF => ?_)
          refine r_aload_n C dL_law_1241 rfl 3 rfl ?_
          obtain ⟨r308, h309, hc310, hF⟩ := cl_some hF
          refine r_callSW (As := [.ref 10, .int x306, .int x307, .ref 5]) C dL_law_1242 V hT NC cw_L_told ml_L_142 sm_L_told (by first | decide | omega) rfl rfl (Nat.le_of_ble_eq_true rfl) (by first | decide | omega) (by first | decide | omega) (S_L_told _ _ hc310) ?_
          refine r_istore C dL_law_1245 (by first | decide | omega) rfl ?_
          refine r_aload_n C dL_law_1247 rfl 3 rfl ?_
          refine r_aload_n C dL_law_1248 rfl 1 rfl ?_
          refine r_iload C dL_law_1249 5 rfl ?_
          refine r_iconst (v := 1) C dL_law_1251 (by first | decide | omega) ?_
          refine r_iadd C dL_law_1252 ?_
          refine k_aS C dL_law_1253 hF (fun x311 hF => ?_)
          refine r_aload_n C dL_law_1254 rfl 1 rfl ?_
          refine r_iload C dL_law_1255 5 rfl ?_
          refine r_iconst (v := 2) C dL_law_1257 (by first | decide | omega) ?_
          refine r_iadd C dL_law_1258 ?_
          refine k_aS C dL_law_1259 hF (fun x312 hF => ?_)
          obtain ⟨ht, hF⟩ := tst_some hF
          obtain ⟨r313, h314, hc315, hF⟩ := cl_some hF
          refine r_callV (As := [.int x311, .int x312]) C dL_law_1260 V hT cal_X12_told cls_13 ml_L_144 im_X12_told se_X12_told ht (by first | decide | omega) rfl rfl (Nat.le_of_ble_eq_true rfl) (by first | decide | omega) (by first | decide | omega) (S_X12_told _ _ hc315) ?_
          refine r_istore C dL_law_1263 (by first | decide | omega) rfl ?_
          refine r_aload_n C dL_law_1265 rfl 4 rfl ?_
          obtain ⟨ht, hF⟩ := tst_some hF
          obtain ⟨r316, h317, hc318, hF⟩ := cl_some hF
          refine r_callV (As := []) C dL_law_1266 V hT cal_X12_thrown cls_13 ml_L_92 im_X12_thrown se_X12_thrown ht (by first | decide | omega) rfl rfl (Nat.le_of_ble_eq_true rfl) (by first | decide | omega) (by first | decide | omega) (S_X12_thrown _ _ hc318) ?_
          refine r_iload C dL_law_1269 1 rfl ?_
          refine r_icmp_eq (tgt := 1276) C dL_law_1271 (by first | decide | omega) hF (fun hF => ?_) (fun hF => ?_)
          · refine r_iload C dL_law_1276 1 rfl ?_
            obtain ⟨k1293_319, ek1293_319, hF⟩ := jn_some hF
            have Jk1293_319 : ∀  (h320 : PM), k1293_319 h320 = some X → WP p l e room_1 s m args below meth c D cy base ρ h0 (126 + 41 * (513 - (fu + 1)) + 2) (14014 + 327 * (513 - (fu + 1)) + 12) 7 (lw_Z below args s) 1293 [(0, .ref a0), (1, .ref 10), (2, .ref 200), (3, .ref 5), (4, .int v52)] [] h320 := by
              intro h320 hF
              rw [ek1293_319] at hF
              refine r_goto (tgt := 1563) C dL_law_1293 (by first | decide | omega) ?_
              exact WP.cnt (by first | decide | omega) (by first | decide | omega) (Jk1563_57  _ hF)
            refine r_if_ne (tgt := 1293) C dL_law_1278 (by first | decide | omega) hF (fun hF => ?_) (fun hF => ?_)
            · exact r_sub [2, 3, 4, 5, 6] rfl (Jk1293_319  _ hF)
            · refine r_aload_n C dL_law_1281 rfl 5 rfl ?_
              refine r_iconst (v := 0) C dL_law_1282 (by first | decide | omega) ?_
              refine k_aJ C dL_law_1283 hF (fun x321 hF => ?_)
              refine r_iload C dL_law_1284 0 rfl ?_
              refine r_i2l C dL_law_1286 ?_
              refine r_lcmp C dL_law_1287 ?_
              refine r_if_eq (tgt := 1293) C dL_law_1288 (by first | decide | omega) hF (fun hF => ?_) (fun hF => ?_)
              · exact r_sub [2, 3, 4, 5, 6] rfl (Jk1293_319  _ hF)
              · exact r_sub [] rfl (WP.cnt (by first | decide | omega) (by first | decide | omega) (Jk1291  _ hF))
          · exact r_sub [] rfl (WP.cnt (by first | decide | omega) (by first | decide | omega) (Jk1274  _ hF))
        rw [if_neg q16] at hF
        by_cases q17 : x56 = 17
        · rw [if_pos q17] at hF
          refine r_tableIn (tgt := 1296) C dL_law_40 (by rw [q17]; decide) (by rw [q17]; decide) (by rw [q17] <;> rfl) (by first | decide | omega) ?_
          refine r_aload_n C dL_law_1296 rfl 1 rfl ?_
          obtain ⟨ht, hF⟩ := tst_some hF
          obtain ⟨r322, h323, hc324, hF⟩ := cl_some hF
          refine r_callV (As := []) C dL_law_1297 V hT cal_X11_match cls_12 ml_L_145 im_X11_match se_X11_match ht (by first | decide | omega) rfl rfl (Nat.le_of_ble_eq_true rfl) (by first | decide | omega) (by first | decide | omega) (S_X11_match _ _ hc324) ?_
          refine r_aload_n C dL_law_1300 rfl 2 rfl ?_
          obtain ⟨ht, hF⟩ := tst_some hF
          obtain ⟨r325, h326, hc327, hF⟩ := cl_some hF
          refine r_callV (As := []) C dL_law_1301 V hT cal_X12_match cls_13 ml_L_148 im_X12_match se_X12_match ht (by first | decide | omega) rfl rfl (Nat.le_of_ble_eq_true rfl) (by first | decide | omega) (by first | decide | omega) (S_X12_match _ _ hc327) ?_
          refine r_icmp_eq (tgt := 1563) C dL_law_1304 (by first | decide | omega) hF (fun hF => ?_) (fun hF => ?_)
          · exact WP.cnt (by first | decide | omega) (by first | decide | omega) (Jk1563_57  _ hF)
          · exact r_sub [] rfl (WP.cnt (by first | decide | omega) (by first | decide | omega) (Jk1307  _ hF))
        rw [if_neg q17] at hF
        by_cases q18 : x56 = 18
        · rw [if_pos q18] at hF
          refine r_tableIn (tgt := 1309) C dL_law_40 (by rw [q18]; decide) (by rw [q18]; decide) (by rw [q18] <;> rfl) (by first | decide | omega) ?_
          refine r_aload_n C dL_law_1309 rfl 1 rfl ?_
          refine r_aload_n C dL_law_1310 rfl 0 rfl ?_
          refine r_iload C dL_law_1311 4 rfl ?_
          refine r_iconst (v := 1) C dL_law_1313 (by first | decide | omega) ?_
          refine r_iadd C dL_law_1314 ?_
          refine k_aS C dL_law_1315 hF (fun x328 hF => ?_)
          refine r_aload_n C dL_law_1316 rfl 0 rfl ?_
          refine r_iload C dL_law_1317 4 rfl ?_
          refine r_iconst (v := 2) C dL_law_1319 (by first | decide | omega) ?_
          refine r_iadd C dL_law_1320 ?_
          refine k_aS C dL_law_1321 hF (fun x329 hF => ?_)
          refine r_aload_n C dL_law_1322 rfl 3 rfl ?_
          obtain ⟨r330, h331, hc332, hF⟩ := cl_some hF
          refine r_callSW (As := [.ref 10, .int x328, .int x329, .ref 5]) C dL_law_1323 V hT NC cw_L_lot ml_L_149 sm_L_lot (by first | decide | omega) rfl rfl (Nat.le_of_ble_eq_true rfl) (by first | decide | omega) (by first | decide | omega) (S_L_lot _ _ hc332) ?_
          refine r_istore C dL_law_1326 (by first | decide | omega) rfl ?_
          refine r_aload_n C dL_law_1328 rfl 3 rfl ?_
          refine r_aload_n C dL_law_1329 rfl 1 rfl ?_
          refine r_iload C dL_law_1330 5 rfl ?_
          refine r_iconst (v := 1) C dL_law_1332 (by first | decide | omega) ?_
          refine r_iadd C dL_law_1333 ?_
          refine k_aS C dL_law_1334 hF (fun x333 hF => ?_)
          refine r_aload_n C dL_law_1335 rfl 1 rfl ?_
          refine r_iload C dL_law_1336 5 rfl ?_
          refine r_iconst (v := 2) C dL_law_1338 (by first | decide | omega) ?_
          refine r_iadd C dL_law_1339 ?_
          refine k_aS C dL_law_1340 hF (fun x334 hF => ?_)
          obtain ⟨ht, hF⟩ := tst_some hF
          obtain ⟨r335, h336, hc337, hF⟩ := cl_some hF
          refine r_callV (As := [.int x333, .int x334]) C dL_law_1341 V hT cal_X12_lot cls_13 ml_L_151 im_X12_lot se_X12_lot ht (by first | decide | omega) rfl rfl (Nat.le_of_ble_eq_true rfl) (by first | decide | omega) (by first | decide | omega) (S_X12_lot _ _ hc337) ?_
          refine r_istore C dL_law_1344 (by first | decide | omega) rfl ?_
          refine r_aload_n C dL_law_1346 rfl 4 rfl ?_
          obtain ⟨ht, hF⟩ := tst_some hF
          obtain ⟨r338, h339, hc340, hF⟩ := cl_some hF
          refine r_callV (As := []) C dL_law_1347 V hT cal_X12_thrown cls_13 ml_L_92 im_X12_thrown se_X12_thrown ht (by first | decide | omega) rfl rfl (Nat.le_of_ble_eq_true rfl) (by first | decide | omega) (by first | decide | omega) (S_X12_thrown _ _ hc340) ?_
          refine r_iload C dL_law_1350 1 rfl ?_
          refine r_icmp_eq (tgt := 1357) C dL_law_1352 (by first | decide | omega) hF (fun hF => ?_) (fun hF => ?_)
          · refine r_iload C dL_law_1357 1 rfl ?_
            obtain ⟨k1374_341, ek1374_341, hF⟩ := jn_some hF
            have Jk1374_341 : ∀  (h342 : PM), k1374_341 h342 = some X → WP p l e room_1 s m args below meth c D cy base ρ h0 (126 + 41 * (513 - (fu + 1)) + 1) (14014 + 327 * (513 - (fu + 1)) + 6) 7 (lw_Z below args s) 1374 [(0, .ref a0), (1, .ref 10), (2, .ref 200), (3, .ref 5), (4, .int v52)] [] h342 := by
              intro h342 hF
              rw [ek1374_341] at hF
              refine r_goto (tgt := 1563) C dL_law_1374 (by first | decide | omega) ?_
              exact WP.cnt (by first | decide | omega) (by first | decide | omega) (Jk1563_57  _ hF)
            refine r_if_ne (tgt := 1374) C dL_law_1359 (by first | decide | omega) hF (fun hF => ?_) (fun hF => ?_)
            · exact r_sub [2, 3, 4, 5, 6] rfl (Jk1374_341  _ hF)
            · refine r_aload_n C dL_law_1362 rfl 5 rfl ?_
              refine r_iconst (v := 0) C dL_law_1363 (by first | decide | omega) ?_
              refine k_aJ C dL_law_1364 hF (fun x343 hF => ?_)
              refine r_iload C dL_law_1365 0 rfl ?_
              refine r_i2l C dL_law_1367 ?_
              refine r_lcmp C dL_law_1368 ?_
              refine r_if_eq (tgt := 1374) C dL_law_1369 (by first | decide | omega) hF (fun hF => ?_) (fun hF => ?_)
              · exact r_sub [2, 3, 4, 5, 6] rfl (Jk1374_341  _ hF)
              · exact r_sub [] rfl (WP.cnt (by first | decide | omega) (by first | decide | omega) (Jk1372  _ hF))
          · exact r_sub [] rfl (WP.cnt (by first | decide | omega) (by first | decide | omega) (Jk1355  _ hF))
        rw [if_neg q18] at hF
        by_cases q19 : x56 = 19
        · rw [if_pos q19] at hF
          refine r_tableIn (tgt := 1377) C dL_law_40 (by rw [q19]; decide) (by rw [q19]; decide) (by rw [q19] <;> rfl) (by first | decide | omega) ?_
          refine r_aload_n C dL_law_1377 rfl 1 rfl ?_
          refine r_aload_n C dL_law_1378 rfl 0 rfl ?_
          refine r_iload C dL_law_1379 4 rfl ?_
          refine r_iconst (v := 1) C dL_law_1381 (by first | decide | omega) ?_
          refine r_iadd C dL_law_1382 ?_
          refine k_aS C dL_law_1383 hF (fun x344 hF => ?_)
          refine r_aload_n C dL_law_1384 rfl 0 rfl ?_
          refine r_iload C dL_law_1385 4 rfl ?_
          refine r_iconst (v := 2) C dL_law_1387 (by first | decide | omega) ?_
          refine r_iadd C dL_law_1388 ?_
          refine k_aS C dL_law_1389 hF (fun x345 hF => ?_)
          refine r_aload_n C dL_law_1390 rfl 0 rfl ?_
          refine r_iload C dL_law_1391 4 rfl ?_
          refine r_iconst (v := 3) C dL_law_1393 (by first | decide | omega) ?_
          refine r_iadd C dL_law_1394 ?_
          refine k_aS C dL_law_1395 hF (fun x346 hF => ?_)
          refine r_aload_n C dL_law_1396 rfl 3 rfl ?_
          obtain ⟨r347, h348, hc349, hF⟩ := cl_some hF
          refine r_callSW (As := [.ref 10, .int x344, .int x345, .int x346, .ref 5]) C dL_law_1397 V hT NC cw_L_bid ml_L_152 sm_L_bid (by first | decide | omega) rfl rfl (Nat.le_of_ble_eq_true rfl) (by first | decide | omega) (by first | decide | omega) (S_L_bid _ _ hc349) ?_
          refine r_istore C dL_law_1400 (by first | decide | omega) rfl ?_
          refine r_aload_n C dL_law_1402 rfl 3 rfl ?_
          refine r_aload_n C dL_law_1403 rfl 1 rfl ?_
          refine r_iload C dL_law_1404 5 rfl ?_
          refine r_iconst (v := 1) C dL_law_1406 (by first | decide | omega) ?_
          refine r_iadd C dL_law_1407 ?_
          refine k_aS C dL_law_1408 hF (fun x350 hF => ?_)
          refine r_aload_n C dL_law_1409 rfl 1 rfl ?_
          refine r_iload C dL_law_1410 5 rfl ?_
          refine r_iconst (v := 2) C dL_law_1412 (by first | decide | omega) ?_
          refine r_iadd C dL_law_1413 ?_
          refine k_aS C dL_law_1414 hF (fun x351 hF => ?_)
          refine r_aload_n C dL_law_1415 rfl 1 rfl ?_
          refine r_iload C dL_law_1416 5 rfl ?_
          refine r_iconst (v := 3) C dL_law_1418 (by first | decide | omega) ?_
          refine r_iadd C dL_law_1419 ?_
          refine k_aS C dL_law_1420 hF (fun x352 hF => ?_)
          obtain ⟨ht, hF⟩ := tst_some hF
          obtain ⟨r353, h354, hc355, hF⟩ := cl_some hF
          refine r_callV (As := [.int x350, .int x351, .int x352]) C dL_law_1421 V hT cal_X12_bid cls_13 ml_L_154 im_X12_bid se_X12_bid ht (by first | decide | omega) rfl rfl (Nat.le_of_ble_eq_true rfl) (by first | decide | omega) (by first | decide | omega) (S_X12_bid _ _ hc355) ?_
          refine r_istore C dL_law_1424 (by first | decide | omega) rfl ?_
          refine r_aload_n C dL_law_1426 rfl 4 rfl ?_
          obtain ⟨ht, hF⟩ := tst_some hF
          obtain ⟨r356, h357, hc358, hF⟩ := cl_some hF
          refine r_callV (As := []) C dL_law_1427 V hT cal_X12_thrown cls_13 ml_L_92 im_X12_thrown se_X12_thrown ht (by first | decide | omega) rfl rfl (Nat.le_of_ble_eq_true rfl) (by first | decide | omega) (by first | decide | omega) (S_X12_thrown _ _ hc358) ?_
          refine r_iload C dL_law_1430 1 rfl ?_
          refine r_icmp_eq (tgt := 1437) C dL_law_1432 (by first | decide | omega) hF (fun hF => ?_) (fun hF => ?_)
          · refine r_iload C dL_law_1437 1 rfl ?_
            obtain ⟨k1454_359, ek1454_359, hF⟩ := jn_some hF
            have Jk1454_359 : ∀  (h360 : PM), k1454_359 h360 = some X → WP p l e room_1 s m args below meth c D cy base ρ h0 (126 + 41 * (513 - (fu + 1)) + 2) (14014 + 327 * (513 - (fu + 1)) + 12) 7 (lw_Z below args s) 1454 [(0, .ref a0), (1, .ref 10), (2, .ref 200), (3, .ref 5), (4, .int v52)] [] h360 := by
              intro h360 hF
              rw [ek1454_359] at hF
              refine r_goto (tgt := 1563) C dL_law_1454 (by first | decide | omega) ?_
              exact WP.cnt (by first | decide | omega) (by first | decide | omega) (Jk1563_57  _ hF)
            refine r_if_ne (tgt := 1454) C dL_law_1439 (by first | decide | omega) hF (fun hF => ?_) (fun hF => ?_)
            · exact r_sub [2, 3, 4, 5, 6] rfl (Jk1454_359  _ hF)
            · refine r_aload_n C dL_law_1442 rfl 5 rfl ?_
              refine r_iconst (v := 0) C dL_law_1443 (by first | decide | omega) ?_
              refine k_aJ C dL_law_1444 hF (fun x361 hF => ?_)
              refine r_iload C dL_law_1445 0 rfl ?_
              refine r_i2l C dL_law_1447 ?_
              refine r_lcmp C dL_law_1448 ?_
              refine r_if_eq (tgt := 1454) C dL_law_1449 (by first | decide | omega) hF (fun hF => ?_) (fun hF => ?_)
              · exact r_sub [2, 3, 4, 5, 6] rfl (Jk1454_359  _ hF)
              · exact r_sub [] rfl (WP.cnt (by first | decide | omega) (by first | decide | omega) (Jk1452  _ hF))
          · exact r_sub [] rfl (WP.cnt (by first | decide | omega) (by first | decide | omega) (Jk1435  _ hF))
        rw [if_neg q19] at hF
        by_cases q20 : x56 = 20
        · rw [if_pos q20] at hF
          refine r_tableIn (tgt := 1457) C dL_law_40 (by rw [q20]; decide) (by rw [q20]; decide) (by rw [q20] <;> rfl) (by first | decide | omega) ?_
          refine r_aload_n C dL_law_1457 rfl 1 rfl ?_
          refine r_aload_n C dL_law_1458 rfl 0 rfl ?_
          refine r_iload C dL_law_1459 4 rfl ?_
          refine r_iconst (v := 1) C dL_law_1461 (by first | decide | omega) ?_
          refine r_iadd C dL_law_1462 ?_
          refine k_aS C dL_law_1463 hF (fun x362 hF => ?_)
          refine r_aload_n C dL_law_1464 rfl 0 rfl ?_
          refine r_iload C dL_law_1465 4 rfl ?_
          refine r_iconst (v := 2) C dL_law_1467 (by first | decide | omega) ?_
          refine r_iadd C dL_law_1468 ?_
          refine k_aS C dL_law_1469 hF (fun x363 hF => ?_)
          refine r_aload_n C dL_law_1470 rfl 3 rfl ?_
          obtain ⟨r364, h365, hc366, hF⟩ := cl_some hF
          refine r_callSW (As := [.ref 10, .int x362, .int x363, .ref 5]) C dL_law_1471 V hT NC cw_L_most ml_L_155 sm_L_most (by first | decide | omega) rfl rfl (Nat.le_of_ble_eq_true rfl) (by first | decide | omega) (by first | decide | omega) (S_L_most _ _ hc366) ?_
          refine r_istore C dL_law_1474 (by first | decide | omega) rfl ?_
          refine r_aload_n C dL_law_1476 rfl 3 rfl ?_
          refine r_aload_n C dL_law_1477 rfl 1 rfl ?_
          refine r_iload C dL_law_1478 5 rfl ?_
          refine r_iconst (v := 1) C dL_law_1480 (by first | decide | omega) ?_
          refine r_iadd C dL_law_1481 ?_
          refine k_aS C dL_law_1482 hF (fun x367 hF => ?_)
          refine r_aload_n C dL_law_1483 rfl 1 rfl ?_
          refine r_iload C dL_law_1484 5 rfl ?_
          refine r_iconst (v := 2) C dL_law_1486 (by first | decide | omega) ?_
          refine r_iadd C dL_law_1487 ?_
          refine k_aS C dL_law_1488 hF (fun x368 hF => ?_)
          obtain ⟨ht, hF⟩ := tst_some hF
          obtain ⟨r369, h370, hc371, hF⟩ := cl_some hF
          refine r_callV (As := [.int x367, .int x368]) C dL_law_1489 V hT cal_X12_most cls_13 ml_L_157 im_X12_most se_X12_most ht (by first | decide | omega) rfl rfl (Nat.le_of_ble_eq_true rfl) (by first | decide | omega) (by first | decide | omega) (S_X12_most _ _ hc371) ?_
          refine r_istore C dL_law_1492 (by first | decide | omega) rfl ?_
          refine r_aload_n C dL_law_1494 rfl 4 rfl ?_
          obtain ⟨ht, hF⟩ := tst_some hF
          obtain ⟨r372, h373, hc374, hF⟩ := cl_some hF
          refine r_callV (As := []) C dL_law_1495 V hT cal_X12_thrown cls_13 ml_L_92 im_X12_thrown se_X12_thrown ht (by first | decide | omega) rfl rfl (Nat.le_of_ble_eq_true rfl) (by first | decide | omega) (by first | decide | omega) (S_X12_thrown _ _ hc374) ?_
          refine r_iload C dL_law_1498 1 rfl ?_
          refine r_icmp_eq (tgt := 1505) C dL_law_1500 (by first | decide | omega) hF (fun hF => ?_) (fun hF => ?_)
          · refine r_iload C dL_law_1505 1 rfl ?_
            obtain ⟨k1522_375, ek1522_375, hF⟩ := jn_some hF
            have Jk1522_375 : ∀  (h376 : PM), k1522_375 h376 = some X → WP p l e room_1 s m args below meth c D cy base ρ h0 (126 + 41 * (513 - (fu + 1)) + 2) (14014 + 327 * (513 - (fu + 1)) + 12) 7 (lw_Z below args s) 1522 [(0, .ref a0), (1, .ref 10), (2, .ref 200), (3, .ref 5), (4, .int v52)] [] h376 := by
              intro h376 hF
              rw [ek1522_375] at hF
              refine r_goto (tgt := 1563) C dL_law_1522 (by first | decide | omega) ?_
              exact WP.cnt (by first | decide | omega) (by first | decide | omega) (Jk1563_57  _ hF)
            refine r_if_ne (tgt := 1522) C dL_law_1507 (by first | decide | omega) hF (fun hF => ?_) (fun hF => ?_)
            · exact r_sub [2, 3, 4, 5, 6] rfl (Jk1522_375  _ hF)
            · refine r_aload_n C dL_law_1510 rfl 5 rfl ?_
              refine r_iconst (v := 0) C dL_law_1511 (by first | decide | omega) ?_
              refine k_aJ C dL_law_1512 hF (fun x377 hF => ?_)
              refine r_iload C dL_law_1513 0 rfl ?_
              refine r_i2l C dL_law_1515 ?_
              refine r_lcmp C dL_law_1516 ?_
              refine r_if_eq (tgt := 1522) C dL_law_1517 (by first | decide | omega) hF (fun hF => ?_) (fun hF => ?_)
              · exact r_sub [2, 3, 4, 5, 6] rfl (Jk1522_375  _ hF)
              · exact r_sub [] rfl (WP.cnt (by first | decide | omega) (by first | decide | omega) (Jk1520  _ hF))
          · exact r_sub [] rfl (WP.cnt (by first | decide | omega) (by first | decide | omega) (Jk1503  _ hF))
        rw [if_neg q20] at hF
        by_cases q21 : x56 = 21
        · rw [if_pos q21] at hF
          refine r_tableIn (tgt := 1525) C dL_law_40 (by rw [q21]; decide) (by rw [q21]; decide) (by rw [q21] <;> rfl) (by first | decide | omega) ?_
          refine r_aload_n C dL_law_1525 rfl 1 rfl ?_
          obtain ⟨ht, hF⟩ := tst_some hF
          obtain ⟨r378, h379, hc380, hF⟩ := cl_some hF
          refine r_callV (As := []) C dL_law_1526 V hT cal_X11_sell cls_12 ml_L_158 im_X11_sell se_X11_sell ht (by first | decide | omega) rfl rfl (Nat.le_of_ble_eq_true rfl) (by first | decide | omega) (by first | decide | omega) (S_X11_sell _ _ hc380) ?_
          refine r_aload_n C dL_law_1529 rfl 2 rfl ?_
          obtain ⟨ht, hF⟩ := tst_some hF
          obtain ⟨r381, h382, hc383, hF⟩ := cl_some hF
          refine r_callV (As := []) C dL_law_1530 V hT cal_X12_sell cls_13 ml_L_161 im_X12_sell se_X12_sell ht (by first | decide | omega) rfl rfl (Nat.le_of_ble_eq_true rfl) (by first | decide | omega) (by first | decide | omega) (S_X12_sell _ _ hc383) ?_
          refine r_icmp_eq (tgt := 1563) C dL_law_1533 (by first | decide | omega) hF (fun hF => ?_) (fun hF => ?_)
          · exact WP.cnt (by first | decide | omega) (by first | decide | omega) (Jk1563_57  _ hF)
          · exact r_sub [] rfl (WP.cnt (by first | decide | omega) (by first | decide | omega) (Jk1536  _ hF))
        rw [if_neg q21] at hF
        by_cases q22 : x56 = 22
        · rw [if_pos q22] at hF
          refine r_tableIn (tgt := 1538) C dL_law_40 (by rw [q22]; decide) (by rw [q22]; decide) (by rw [q22] <;> rfl) (by first | decide | omega) ?_
          refine r_aload_n C dL_law_1538 rfl 1 rfl ?_
          refine r_aload_n C dL_law_1539 rfl 0 rfl ?_
          refine r_iload C dL_law_1540 4 rfl ?_
          refine r_iconst (v := 1) C dL_law_1542 (by first | decide | omega) ?_
          refine r_iadd C dL_law_1543 ?_
          refine k_aS C dL_law_1544 hF (fun x384 hF => ?_)
          obtain ⟨ht, hF⟩ := tst_some hF
          obtain ⟨r385, h386, hc387, hF⟩ := cl_some hF
          refine r_callV (As := [.int x384]) C dL_law_1545 V hT cal_X11_count cls_12 ml_L_162 im_X11_count se_X11_count ht (by first | decide | omega) rfl rfl (Nat.le_of_ble_eq_true rfl) (by first | decide | omega) (by first | decide | omega) (S_X11_count _ _ hc387) ?_
          refine r_aload_n C dL_law_1548 rfl 2 rfl ?_
          refine r_aload_n C dL_law_1549 rfl 0 rfl ?_
          refine r_iload C dL_law_1550 4 rfl ?_
          refine r_iconst (v := 1) C dL_law_1552 (by first | decide | omega) ?_
          refine r_iadd C dL_law_1553 ?_
          refine k_aS C dL_law_1554 hF (fun x388 hF => ?_)
          obtain ⟨ht, hF⟩ := tst_some hF
          obtain ⟨r389, h390, hc391, hF⟩ := cl_some hF
          refine r_callV (As := [.int x388]) C dL_law_1555 V hT cal_X12_count cls_13 ml_L_165 im_X12_count se_X12_count ht (by first | decide | omega) rfl rfl (Nat.le_of_ble_eq_true rfl) (by first | decide | omega) (by first | decide | omega) (S_X12_count _ _ hc391) ?_
          refine r_icmp_eq (tgt := 1563) C dL_law_1558 (by first | decide | omega) hF (fun hF => ?_) (fun hF => ?_)
          · exact WP.cnt (by first | decide | omega) (by first | decide | omega) (Jk1563_57  _ hF)
          · exact r_sub [] rfl (WP.cnt (by first | decide | omega) (by first | decide | omega) (Jk1561  _ hF))
        rw [if_neg q22] at hF
        refine r_tableOut (tgt := 1563) C dL_law_40 ?_ (by first | decide | omega) ?_
        · have z0 := sw_ne q0; have z1 := sw_ne q1; have z2 := sw_ne q2; have z3 := sw_ne q3; have z4 := sw_ne q4; have z5 := sw_ne q5; have z6 := sw_ne q6; have z7 := sw_ne q7; have z8 := sw_ne q8; have z9 := sw_ne q9; have z10 := sw_ne q10; have z11 := sw_ne q11; have z12 := sw_ne q12; have z13 := sw_ne q13; have z14 := sw_ne q14; have z15 := sw_ne q15; have z16 := sw_ne q16; have z17 := sw_ne q17; have z18 := sw_ne q18; have z19 := sw_ne q19; have z20 := sw_ne q20; have z21 := sw_ne q21; have z22 := sw_ne q22
          have w0 : ((0 : Int32)).toInt = 0 := (by first | decide | omega); have w1 : ((1 : Int32)).toInt = 1 := (by first | decide | omega); have w2 : ((2 : Int32)).toInt = 2 := (by first | decide | omega); have w3 : ((3 : Int32)).toInt = 3 := (by first | decide | omega); have w4 : ((4 : Int32)).toInt = 4 := (by first | decide | omega); have w5 : ((5 : Int32)).toInt = 5 := (by first | decide | omega); have w6 : ((6 : Int32)).toInt = 6 := (by first | decide | omega); have w7 : ((7 : Int32)).toInt = 7 := (by first | decide | omega); have w8 : ((8 : Int32)).toInt = 8 := (by first | decide | omega); have w9 : ((9 : Int32)).toInt = 9 := (by first | decide | omega); have w10 : ((10 : Int32)).toInt = 10 := (by first | decide | omega); have w11 : ((11 : Int32)).toInt = 11 := (by first | decide | omega); have w12 : ((12 : Int32)).toInt = 12 := (by first | decide | omega); have w13 : ((13 : Int32)).toInt = 13 := (by first | decide | omega); have w14 : ((14 : Int32)).toInt = 14 := (by first | decide | omega); have w15 : ((15 : Int32)).toInt = 15 := (by first | decide | omega); have w16 : ((16 : Int32)).toInt = 16 := (by first | decide | omega); have w17 : ((17 : Int32)).toInt = 17 := (by first | decide | omega); have w18 : ((18 : Int32)).toInt = 18 := (by first | decide | omega); have w19 : ((19 : Int32)).toInt = 19 := (by first | decide | omega); have w20 : ((20 : Int32)).toInt = 20 := (by first | decide | omega); have w21 : ((21 : Int32)).toInt = 21 := (by first | decide | omega); have w22 : ((22 : Int32)).toInt = 22 := (by first | decide | omega)
          omega
        · exact WP.cnt (by first | decide | omega) (by first | decide | omega) (Jk1563_57  _ hF)
  exact r_sub [4, 3, 2, 1, 0] rfl (WP.cnt (by first | decide | omega) (by first | decide | omega) (L23 _ _ _ (by first | decide | omega) hF))
