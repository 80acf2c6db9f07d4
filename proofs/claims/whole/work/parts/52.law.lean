def f_L_law_b18 (xs : Nat → Int32) (sL : Nat) (N : Nat) : Nat → Int32 → St → Option (Int32 × St)
  | 0, _, _ => none
  | n + 1, x3, S =>
  if (((Int32.ofNat sL)) - (6 : Int32)) < x3 then
  (some ((1 : Int32), S))
  else
  (chk (inb x3 sL) (
  if ((xs x3.toNatClampNeg) &&& (63 : Int32)) = (0 : Int32) then
  (chk (inb (x3 + (1 : Int32)) sL) (
  bnd (f_X9_hand S (xs (x3 + (1 : Int32)).toNatClampNeg)) fun q3 =>
 chk (inb (x3 + (1 : Int32)) sL) (
  bnd (f_X10_hand q3.2 (xs (x3 + (1 : Int32)).toNatClampNeg)) fun q5 =>
 if q3.1 = q5.1 then
  (lt (x3 + (6 : Int32)) fun v6 =>
  f_L_law_b18 xs sL N n v6 q5.2)
  else
  (some ((0 : Int32), q5.2)))))
  else if ((xs x3.toNatClampNeg) &&& (63 : Int32)) = (1 : Int32) then
  (chk (inb (x3 + (1 : Int32)) sL) (
  chk (inb (x3 + (2 : Int32)) sL) (
  bnd (f_X9_dough N S (xs (x3 + (1 : Int32)).toNatClampNeg) (xs (x3 + (2 : Int32)).toNatClampNeg)) fun q9 =>
 chk (inb (x3 + (1 : Int32)) sL) (
  chk (inb (x3 + (2 : Int32)) sL) (
  bnd (f_X10_dough N q9.2 (xs (x3 + (1 : Int32)).toNatClampNeg) (xs (x3 + (2 : Int32)).toNatClampNeg)) fun q12 =>
 if q9.1 = q12.1 then
  (lt (x3 + (6 : Int32)) fun v13 =>
  f_L_law_b18 xs sL N n v13 q12.2)
  else
  (some ((0 : Int32), q12.2)))))))
  else if ((xs x3.toNatClampNeg) &&& (63 : Int32)) = (2 : Int32) then
  (chk (inb (x3 + (1 : Int32)) sL) (
  bnd (f_X9_town N S (xs (x3 + (1 : Int32)).toNatClampNeg)) fun q15 =>
 chk (inb (x3 + (1 : Int32)) sL) (
  bnd (f_X10_town q15.2 (xs (x3 + (1 : Int32)).toNatClampNeg)) fun q17 =>
 if q15.1 = q17.1 then
  (lt (x3 + (6 : Int32)) fun v18 =>
  f_L_law_b18 xs sL N n v18 q17.2)
  else
  (some ((0 : Int32), q17.2)))))
  else if ((xs x3.toNatClampNeg) &&& (63 : Int32)) = (3 : Int32) then
  (chk (inb (x3 + (1 : Int32)) sL) (
  chk (inb (x3 + (2 : Int32)) sL) (
  chk (inb (x3 + (3 : Int32)) sL) (
  chk (inb (x3 + (4 : Int32)) sL) (
  chk (inb (x3 + (5 : Int32)) sL) (
  bnd (f_X9_feed N S (xs (x3 + (1 : Int32)).toNatClampNeg) (xs (x3 + (2 : Int32)).toNatClampNeg) (xs (x3 + (3 : Int32)).toNatClampNeg) (xs (x3 + (4 : Int32)).toNatClampNeg) (xs (x3 + (5 : Int32)).toNatClampNeg)) fun q24 =>
 chk (inb (x3 + (1 : Int32)) sL) (
  chk (inb (x3 + (2 : Int32)) sL) (
  chk (inb (x3 + (3 : Int32)) sL) (
  chk (inb (x3 + (4 : Int32)) sL) (
  chk (inb (x3 + (5 : Int32)) sL) (
  bnd (f_X10_feed N q24.2 (xs (x3 + (1 : Int32)).toNatClampNeg) (xs (x3 + (2 : Int32)).toNatClampNeg) (xs (x3 + (3 : Int32)).toNatClampNeg) (xs (x3 + (4 : Int32)).toNatClampNeg) (xs (x3 + (5 : Int32)).toNatClampNeg)) fun q30 =>
 if q24.1 = q30.1 then
  (lt (x3 + (6 : Int32)) fun v31 =>
  f_L_law_b18 xs sL N n v31 q30.2)
  else
  (some ((0 : Int32), q30.2)))))))))))))
  else if ((xs x3.toNatClampNeg) &&& (63 : Int32)) = (4 : Int32) then
  (chk (inb (x3 + (1 : Int32)) sL) (
  bnd (f_X9_end S (xs (x3 + (1 : Int32)).toNatClampNeg)) fun q33 =>
 chk (inb (x3 + (1 : Int32)) sL) (
  bnd (f_X10_end q33.2 (xs (x3 + (1 : Int32)).toNatClampNeg)) fun q35 =>
 if q33.1 = q35.1 then
  (lt (x3 + (6 : Int32)) fun v36 =>
  f_L_law_b18 xs sL N n v36 q35.2)
  else
  (some ((0 : Int32), q35.2)))))
  else if ((xs x3.toNatClampNeg) &&& (63 : Int32)) = (5 : Int32) then
  (bnd (f_X9_text N S ) fun q37 =>
 bnd (f_X10_text N q37.2 ) fun q38 =>
 if q37.1 = q38.1 then
  (lt (x3 + (6 : Int32)) fun v39 =>
  f_L_law_b18 xs sL N n v39 q38.2)
  else
  (some ((0 : Int32), q38.2)))
  else if ((xs x3.toNatClampNeg) &&& (63 : Int32)) = (6 : Int32) then
  (chk (inb (x3 + (1 : Int32)) sL) (
  bnd (f_X9_fault S (xs (x3 + (1 : Int32)).toNatClampNeg)) fun q41 =>
 chk (inb (x3 + (1 : Int32)) sL) (
  bnd (f_X10_fault S (xs (x3 + (1 : Int32)).toNatClampNeg)) fun q43 =>
 if q41 = q43 then
  (lt (x3 + (6 : Int32)) fun v44 =>
  f_L_law_b18 xs sL N n v44 S)
  else
  (some ((0 : Int32), S)))))
  else if ((xs x3.toNatClampNeg) &&& (63 : Int32)) = (7 : Int32) then
  (chk (inb (x3 + (1 : Int32)) sL) (
  bnd (f_X9_by S (xs (x3 + (1 : Int32)).toNatClampNeg)) fun q46 =>
 chk (inb (x3 + (1 : Int32)) sL) (
  bnd (f_X10_by q46.2 (xs (x3 + (1 : Int32)).toNatClampNeg)) fun q48 =>
 if q46.1 = q48.1 then
  (lt (x3 + (6 : Int32)) fun v49 =>
  f_L_law_b18 xs sL N n v49 q48.2)
  else
  (some ((0 : Int32), q48.2)))))
  else if ((xs x3.toNatClampNeg) &&& (63 : Int32)) = (8 : Int32) then
  (chk (inb (x3 + (1 : Int32)) sL) (
  chk (inb (x3 + (2 : Int32)) sL) (
  chk (inb (x3 + (3 : Int32)) sL) (
  if (xs (x3 + (3 : Int32)).toNatClampNeg) = (0 : Int32) then
  (bnd (f_X9_stroke N S (xs (x3 + (1 : Int32)).toNatClampNeg) (xs (x3 + (2 : Int32)).toNatClampNeg) (0 : Int32)) fun q53 =>
 chk (inb (x3 + (1 : Int32)) sL) (
  chk (inb (x3 + (2 : Int32)) sL) (
  chk (inb (x3 + (3 : Int32)) sL) (
  if (xs (x3 + (3 : Int32)).toNatClampNeg) = (0 : Int32) then
  (bnd (f_X10_stroke N q53.2 (xs (x3 + (1 : Int32)).toNatClampNeg) (xs (x3 + (2 : Int32)).toNatClampNeg) (0 : Int32)) fun q57 =>
 if q53.1 = q57.1 then
  (lt (x3 + (6 : Int32)) fun v58 =>
  f_L_law_b18 xs sL N n v58 q57.2)
  else
  (some ((0 : Int32), q57.2)))
  else
  (bnd (f_X10_stroke N q53.2 (xs (x3 + (1 : Int32)).toNatClampNeg) (xs (x3 + (2 : Int32)).toNatClampNeg) (1 : Int32)) fun q59 =>
 if q53.1 = q59.1 then
  (lt (x3 + (6 : Int32)) fun v60 =>
  f_L_law_b18 xs sL N n v60 q59.2)
  else
  (some ((0 : Int32), q59.2)))))))
  else
  (bnd (f_X9_stroke N S (xs (x3 + (1 : Int32)).toNatClampNeg) (xs (x3 + (2 : Int32)).toNatClampNeg) (1 : Int32)) fun q61 =>
 chk (inb (x3 + (1 : Int32)) sL) (
  chk (inb (x3 + (2 : Int32)) sL) (
  chk (inb (x3 + (3 : Int32)) sL) (
  if (xs (x3 + (3 : Int32)).toNatClampNeg) = (0 : Int32) then
  (bnd (f_X10_stroke N q61.2 (xs (x3 + (1 : Int32)).toNatClampNeg) (xs (x3 + (2 : Int32)).toNatClampNeg) (0 : Int32)) fun q65 =>
 if q61.1 = q65.1 then
  (lt (x3 + (6 : Int32)) fun v66 =>
  f_L_law_b18 xs sL N n v66 q65.2)
  else
  (some ((0 : Int32), q65.2)))
  else
  (bnd (f_X10_stroke N q61.2 (xs (x3 + (1 : Int32)).toNatClampNeg) (xs (x3 + (2 : Int32)).toNatClampNeg) (1 : Int32)) fun q67 =>
 if q61.1 = q67.1 then
  (lt (x3 + (6 : Int32)) fun v68 =>
  f_L_law_b18 xs sL N n v68 q67.2)
  else
  (some ((0 : Int32), q67.2)))))))))))
  else if ((xs x3.toNatClampNeg) &&& (63 : Int32)) = (9 : Int32) then
  (bnd (f_X9_trim S ) fun q69 =>
 bnd (f_X10_trim N q69.2 ) fun q70 =>
 if q69.1 = q70.1 then
  (lt (x3 + (6 : Int32)) fun v71 =>
  f_L_law_b18 xs sL N n v71 q70.2)
  else
  (some ((0 : Int32), q70.2)))
  else if ((xs x3.toNatClampNeg) &&& (63 : Int32)) = (10 : Int32) then
  (chk (inb (x3 + (1 : Int32)) sL) (
  chk (inb (x3 + (2 : Int32)) sL) (
  bnd (f_X9_patch S (xs (x3 + (1 : Int32)).toNatClampNeg) (xs (x3 + (2 : Int32)).toNatClampNeg)) fun q74 =>
 chk (inb (x3 + (1 : Int32)) sL) (
  chk (inb (x3 + (2 : Int32)) sL) (
  bnd (f_X10_patch N q74.2 (xs (x3 + (1 : Int32)).toNatClampNeg) (xs (x3 + (2 : Int32)).toNatClampNeg)) fun q77 =>
 if q74.1 = q77.1 then
  (lt (x3 + (6 : Int32)) fun v78 =>
  f_L_law_b18 xs sL N n v78 q77.2)
  else
  (some ((0 : Int32), q77.2)))))))
  else if ((xs x3.toNatClampNeg) &&& (63 : Int32)) = (11 : Int32) then
  (chk (inb (x3 + (1 : Int32)) sL) (
  bnd (f_X9_roll N S (xs (x3 + (1 : Int32)).toNatClampNeg)) fun q80 =>
 chk (inb (x3 + (1 : Int32)) sL) (
  bnd (f_X10_roll N q80.2 (xs (x3 + (1 : Int32)).toNatClampNeg)) fun q82 =>
 if q80.1 = q82.1 then
  (lt (x3 + (6 : Int32)) fun v83 =>
  f_L_law_b18 xs sL N n v83 q82.2)
  else
  (some ((0 : Int32), q82.2)))))
  else if ((xs x3.toNatClampNeg) &&& (63 : Int32)) = (12 : Int32) then
  (chk (inb (x3 + (1 : Int32)) sL) (
  bnd (f_X9_played N S (xs (x3 + (1 : Int32)).toNatClampNeg)) fun q85 =>
 chk (inb (x3 + (1 : Int32)) sL) (
  bnd (f_X10_played N q85.2 (xs (x3 + (1 : Int32)).toNatClampNeg)) fun q87 =>
 if q85.1 = q87.1 then
  (lt (x3 + (6 : Int32)) fun v88 =>
  f_L_law_b18 xs sL N n v88 q87.2)
  else
  (some ((0 : Int32), q87.2)))))
  else if ((xs x3.toNatClampNeg) &&& (63 : Int32)) = (13 : Int32) then
  (chk (inb (x3 + (1 : Int32)) sL) (
  chk (inb (x3 + (2 : Int32)) sL) (
  bnd (f_X9_years N S (xs (x3 + (1 : Int32)).toNatClampNeg) (xs (x3 + (2 : Int32)).toNatClampNeg)) fun q91 =>
 chk (inb (x3 + (1 : Int32)) sL) (
  chk (inb (x3 + (2 : Int32)) sL) (
  bnd (f_X10_years N q91.2 (xs (x3 + (1 : Int32)).toNatClampNeg) (xs (x3 + (2 : Int32)).toNatClampNeg)) fun q94 =>
 if q91.1 = q94.1 then
  (lt (x3 + (6 : Int32)) fun v95 =>
  f_L_law_b18 xs sL N n v95 q94.2)
  else
  (some ((0 : Int32), q94.2)))))))
  else if ((xs x3.toNatClampNeg) &&& (63 : Int32)) = (14 : Int32) then
  (bnd (f_X9_undo S ) fun q96 =>
 bnd (f_X10_undo N q96.2 ) fun q97 =>
 if q96.1 = q97.1 then
  (lt (x3 + (6 : Int32)) fun v98 =>
  f_L_law_b18 xs sL N n v98 q97.2)
  else
  (some ((0 : Int32), q97.2)))
  else if ((xs x3.toNatClampNeg) &&& (63 : Int32)) = (15 : Int32) then
  (chk (inb (x3 + (1 : Int32)) sL) (
  chk (inb (x3 + (2 : Int32)) sL) (
  bnd (f_X9_of N S (xs (x3 + (1 : Int32)).toNatClampNeg) (xs (x3 + (2 : Int32)).toNatClampNeg)) fun q101 =>
 chk (inb (x3 + (1 : Int32)) sL) (
  chk (inb (x3 + (2 : Int32)) sL) (
  bnd (f_X10_of N q101.2 (xs (x3 + (1 : Int32)).toNatClampNeg) (xs (x3 + (2 : Int32)).toNatClampNeg)) fun q104 =>
 if q101.1 = q104.1 then
  (lt (x3 + (6 : Int32)) fun v105 =>
  f_L_law_b18 xs sL N n v105 q104.2)
  else
  (some ((0 : Int32), q104.2)))))))
  else if ((xs x3.toNatClampNeg) &&& (63 : Int32)) = (16 : Int32) then
  (chk (inb (x3 + (1 : Int32)) sL) (
  bnd (f_X9_ofTown S (xs (x3 + (1 : Int32)).toNatClampNeg)) fun q107 =>
 chk (inb (x3 + (1 : Int32)) sL) (
  bnd (f_X10_ofTown S (xs (x3 + (1 : Int32)).toNatClampNeg)) fun q109 =>
 if q107 = q109 then
  (lt (x3 + (6 : Int32)) fun v110 =>
  f_L_law_b18 xs sL N n v110 S)
  else
  (some ((0 : Int32), S)))))
  else if ((xs x3.toNatClampNeg) &&& (63 : Int32)) = (17 : Int32) then
  (chk (inb (x3 + (1 : Int32)) sL) (
  bnd (f_X9_ofHand S (xs (x3 + (1 : Int32)).toNatClampNeg)) fun q112 =>
 chk (inb (x3 + (1 : Int32)) sL) (
  bnd (f_X10_ofHand S (xs (x3 + (1 : Int32)).toNatClampNeg)) fun q114 =>
 if q112 = q114 then
  (lt (x3 + (6 : Int32)) fun v115 =>
  f_L_law_b18 xs sL N n v115 S)
  else
  (some ((0 : Int32), S)))))
  else if ((xs x3.toNatClampNeg) &&& (63 : Int32)) = (18 : Int32) then
  (chk (inb (x3 + (1 : Int32)) sL) (
  chk (inb (x3 + (2 : Int32)) sL) (
  chk (inb (x3 + (3 : Int32)) sL) (
  if (xs (x3 + (3 : Int32)).toNatClampNeg) = (0 : Int32) then
  (bnd (f_X9_moves N S (xs (x3 + (1 : Int32)).toNatClampNeg) (xs (x3 + (2 : Int32)).toNatClampNeg) (0 : Int32)) fun q119 =>
 chk (inb (x3 + (1 : Int32)) sL) (
  chk (inb (x3 + (2 : Int32)) sL) (
  chk (inb (x3 + (3 : Int32)) sL) (
  if (xs (x3 + (3 : Int32)).toNatClampNeg) = (0 : Int32) then
  (bnd (f_X10_moves N q119.2 (xs (x3 + (1 : Int32)).toNatClampNeg) (xs (x3 + (2 : Int32)).toNatClampNeg) (0 : Int32)) fun q123 =>
 if q119.1 = q123.1 then
  (lt (x3 + (6 : Int32)) fun v124 =>
  f_L_law_b18 xs sL N n v124 q123.2)
  else
  (some ((0 : Int32), q123.2)))
  else
  (bnd (f_X10_moves N q119.2 (xs (x3 + (1 : Int32)).toNatClampNeg) (xs (x3 + (2 : Int32)).toNatClampNeg) (1 : Int32)) fun q125 =>
 if q119.1 = q125.1 then
  (lt (x3 + (6 : Int32)) fun v126 =>
  f_L_law_b18 xs sL N n v126 q125.2)
  else
  (some ((0 : Int32), q125.2)))))))
  else
  (bnd (f_X9_moves N S (xs (x3 + (1 : Int32)).toNatClampNeg) (xs (x3 + (2 : Int32)).toNatClampNeg) (1 : Int32)) fun q127 =>
 chk (inb (x3 + (1 : Int32)) sL) (
  chk (inb (x3 + (2 : Int32)) sL) (
  chk (inb (x3 + (3 : Int32)) sL) (
  if (xs (x3 + (3 : Int32)).toNatClampNeg) = (0 : Int32) then
  (bnd (f_X10_moves N q127.2 (xs (x3 + (1 : Int32)).toNatClampNeg) (xs (x3 + (2 : Int32)).toNatClampNeg) (0 : Int32)) fun q131 =>
 if q127.1 = q131.1 then
  (lt (x3 + (6 : Int32)) fun v132 =>
  f_L_law_b18 xs sL N n v132 q131.2)
  else
  (some ((0 : Int32), q131.2)))
  else
  (bnd (f_X10_moves N q127.2 (xs (x3 + (1 : Int32)).toNatClampNeg) (xs (x3 + (2 : Int32)).toNatClampNeg) (1 : Int32)) fun q133 =>
 if q127.1 = q133.1 then
  (lt (x3 + (6 : Int32)) fun v134 =>
  f_L_law_b18 xs sL N n v134 q133.2)
  else
  (some ((0 : Int32), q133.2)))))))))))
  else if ((xs x3.toNatClampNeg) &&& (63 : Int32)) = (19 : Int32) then
  (chk (inb (x3 + (1 : Int32)) sL) (
  bnd (f_X9_is N S (xs (x3 + (1 : Int32)).toNatClampNeg)) fun q136 =>
 chk (inb (x3 + (1 : Int32)) sL) (
  bnd (f_X10_is N S (xs (x3 + (1 : Int32)).toNatClampNeg)) fun q138 =>
 if q136 = q138 then
  (lt (x3 + (6 : Int32)) fun v139 =>
  f_L_law_b18 xs sL N n v139 S)
  else
  (some ((0 : Int32), S)))))
  else if ((xs x3.toNatClampNeg) &&& (63 : Int32)) = (20 : Int32) then
  (chk (inb (x3 + (1 : Int32)) sL) (
  chk (inb (x3 + (2 : Int32)) sL) (
  bnd (f_X9_book S (xs (x3 + (1 : Int32)).toNatClampNeg) (xs (x3 + (2 : Int32)).toNatClampNeg)) fun q142 =>
 chk (inb (x3 + (1 : Int32)) sL) (
  chk (inb (x3 + (2 : Int32)) sL) (
  bnd (f_X10_book S (xs (x3 + (1 : Int32)).toNatClampNeg) (xs (x3 + (2 : Int32)).toNatClampNeg)) fun q145 =>
 if q142 = q145 then
  (lt (x3 + (6 : Int32)) fun v146 =>
  f_L_law_b18 xs sL N n v146 S)
  else
  (some ((0 : Int32), S)))))))
  else if ((xs x3.toNatClampNeg) &&& (63 : Int32)) = (21 : Int32) then
  (chk (inb (x3 + (1 : Int32)) sL) (
  chk (inb (x3 + (2 : Int32)) sL) (
  chk (inb (x3 + (3 : Int32)) sL) (
  bnd (f_X9_foretold N S (xs (x3 + (1 : Int32)).toNatClampNeg) (xs (x3 + (2 : Int32)).toNatClampNeg) (xs (x3 + (3 : Int32)).toNatClampNeg)) fun q150 =>
 chk (inb (x3 + (1 : Int32)) sL) (
  chk (inb (x3 + (2 : Int32)) sL) (
  chk (inb (x3 + (3 : Int32)) sL) (
  bnd (f_X10_foretold N q150.2 (xs (x3 + (1 : Int32)).toNatClampNeg) (xs (x3 + (2 : Int32)).toNatClampNeg) (xs (x3 + (3 : Int32)).toNatClampNeg)) fun q154 =>
 if q150.1 = q154.1 then
  (lt (x3 + (6 : Int32)) fun v155 =>
  f_L_law_b18 xs sL N n v155 q154.2)
  else
  (some ((0 : Int32), q154.2)))))))))
  else if ((xs x3.toNatClampNeg) &&& (63 : Int32)) = (22 : Int32) then
  (bnd (f_X9_lake N S ) fun q156 =>
 bnd (f_X10_lake N S ) fun q157 =>
 if q156 = q157 then
  (lt (x3 + (6 : Int32)) fun v158 =>
  f_L_law_b18 xs sL N n v158 S)
  else
  (some ((0 : Int32), S)))
  else if ((xs x3.toNatClampNeg) &&& (63 : Int32)) = (23 : Int32) then
  (chk (inb (x3 + (1 : Int32)) sL) (
  bnd (f_X9_glaze N S (xs (x3 + (1 : Int32)).toNatClampNeg)) fun q160 =>
 chk (inb (x3 + (1 : Int32)) sL) (
  bnd (f_X10_glaze N S (xs (x3 + (1 : Int32)).toNatClampNeg)) fun q162 =>
 if q160 = q162 then
  (lt (x3 + (6 : Int32)) fun v163 =>
  f_L_law_b18 xs sL N n v163 S)
  else
  (some ((0 : Int32), S)))))
  else if ((xs x3.toNatClampNeg) &&& (63 : Int32)) = (24 : Int32) then
  (chk (inb (x3 + (1 : Int32)) sL) (
  bnd (f_X9_rise N S (xs (x3 + (1 : Int32)).toNatClampNeg)) fun q165 =>
 chk (inb (x3 + (1 : Int32)) sL) (
  bnd (f_X10_rise N q165.2 (xs (x3 + (1 : Int32)).toNatClampNeg)) fun q167 =>
 if q165.1 = q167.1 then
  (lt (x3 + (6 : Int32)) fun v168 =>
  f_L_law_b18 xs sL N n v168 q167.2)
  else
  (some ((0 : Int32), q167.2)))))
  else if ((xs x3.toNatClampNeg) &&& (63 : Int32)) = (25 : Int32) then
  (bnd (f_X9_folds N S ) fun q169 =>
 bnd (f_X10_folds N S ) fun q170 =>
 if q169 = q170 then
  (lt (x3 + (6 : Int32)) fun v171 =>
  f_L_law_b18 xs sL N n v171 S)
  else
  (some ((0 : Int32), S)))
  else if ((xs x3.toNatClampNeg) &&& (63 : Int32)) = (26 : Int32) then
  (bnd (f_X9_peaks N S ) fun q172 =>
 bnd (f_X10_peaks N S ) fun q173 =>
 if q172 = q173 then
  (lt (x3 + (6 : Int32)) fun v174 =>
  f_L_law_b18 xs sL N n v174 S)
  else
  (some ((0 : Int32), S)))
  else if ((xs x3.toNatClampNeg) &&& (63 : Int32)) = (27 : Int32) then
  (chk (inb (x3 + (1 : Int32)) sL) (
  bnd (f_X9_richest N S (xs (x3 + (1 : Int32)).toNatClampNeg)) fun q176 =>
 chk (inb (x3 + (1 : Int32)) sL) (
  bnd (f_X10_richest N S (xs (x3 + (1 : Int32)).toNatClampNeg)) fun q178 =>
 if q176 = q178 then
  (lt (x3 + (6 : Int32)) fun v179 =>
  f_L_law_b18 xs sL N n v179 S)
  else
  (some ((0 : Int32), S)))))
  else if ((xs x3.toNatClampNeg) &&& (63 : Int32)) = (28 : Int32) then
  (chk (inb (x3 + (1 : Int32)) sL) (
  bnd (f_X9_islands N S (xs (x3 + (1 : Int32)).toNatClampNeg)) fun q181 =>
 chk (inb (x3 + (1 : Int32)) sL) (
  bnd (f_X10_islands N S (xs (x3 + (1 : Int32)).toNatClampNeg)) fun q183 =>
 if q181 = q183 then
  (lt (x3 + (6 : Int32)) fun v184 =>
  f_L_law_b18 xs sL N n v184 S)
  else
  (some ((0 : Int32), S)))))
  else if ((xs x3.toNatClampNeg) &&& (63 : Int32)) = (29 : Int32) then
  (chk (inb (x3 + (1 : Int32)) sL) (
  chk (inb (x3 + (2 : Int32)) sL) (
  if (xs (x3 + (2 : Int32)).toNatClampNeg) = (0 : Int32) then
  (bnd (f_X9_sees N S (xs (x3 + (1 : Int32)).toNatClampNeg) (0 : Int32)) fun q187 =>
 chk (inb (x3 + (1 : Int32)) sL) (
  chk (inb (x3 + (2 : Int32)) sL) (
  if (xs (x3 + (2 : Int32)).toNatClampNeg) = (0 : Int32) then
  (bnd (f_X10_sees N S (xs (x3 + (1 : Int32)).toNatClampNeg) (0 : Int32)) fun q190 =>
 if q187 = q190 then
  (lt (x3 + (6 : Int32)) fun v191 =>
  f_L_law_b18 xs sL N n v191 S)
  else
  (some ((0 : Int32), S)))
  else
  (bnd (f_X10_sees N S (xs (x3 + (1 : Int32)).toNatClampNeg) (1 : Int32)) fun q192 =>
 if q187 = q192 then
  (lt (x3 + (6 : Int32)) fun v193 =>
  f_L_law_b18 xs sL N n v193 S)
  else
  (some ((0 : Int32), S))))))
  else
  (bnd (f_X9_sees N S (xs (x3 + (1 : Int32)).toNatClampNeg) (1 : Int32)) fun q194 =>
 chk (inb (x3 + (1 : Int32)) sL) (
  chk (inb (x3 + (2 : Int32)) sL) (
  if (xs (x3 + (2 : Int32)).toNatClampNeg) = (0 : Int32) then
  (bnd (f_X10_sees N S (xs (x3 + (1 : Int32)).toNatClampNeg) (0 : Int32)) fun q197 =>
 if q194 = q197 then
  (lt (x3 + (6 : Int32)) fun v198 =>
  f_L_law_b18 xs sL N n v198 S)
  else
  (some ((0 : Int32), S)))
  else
  (bnd (f_X10_sees N S (xs (x3 + (1 : Int32)).toNatClampNeg) (1 : Int32)) fun q199 =>
 if q194 = q199 then
  (lt (x3 + (6 : Int32)) fun v200 =>
  f_L_law_b18 xs sL N n v200 S)
  else
  (some ((0 : Int32), S)))))))))
  else if ((xs x3.toNatClampNeg) &&& (63 : Int32)) = (30 : Int32) then
  (chk (inb (x3 + (1 : Int32)) sL) (
  bnd (f_X9_middle N S (xs (x3 + (1 : Int32)).toNatClampNeg)) fun q202 =>
 chk (inb (x3 + (1 : Int32)) sL) (
  bnd (f_X10_middle N S (xs (x3 + (1 : Int32)).toNatClampNeg)) fun q204 =>
 if q202 = q204 then
  (lt (x3 + (6 : Int32)) fun v205 =>
  f_L_law_b18 xs sL N n v205 S)
  else
  (some ((0 : Int32), S)))))
  else if ((xs x3.toNatClampNeg) &&& (63 : Int32)) = (31 : Int32) then
  (bnd (f_X9_carried N S ) fun q206 =>
 bnd (f_X10_carried N S ) fun q207 =>
 if q206 = q207 then
  (lt (x3 + (6 : Int32)) fun v208 =>
  f_L_law_b18 xs sL N n v208 S)
  else
  (some ((0 : Int32), S)))
  else if ((xs x3.toNatClampNeg) &&& (63 : Int32)) = (32 : Int32) then
  (bnd (f_X9_level N S ) fun q209 =>
 bnd (f_X10_level N q209.2 ) fun q210 =>
 if q209.1 = q210 then
  (lt (x3 + (6 : Int32)) fun v211 =>
  f_L_law_b18 xs sL N n v211 q209.2)
  else
  (some ((0 : Int32), q209.2)))
  else if ((xs x3.toNatClampNeg) &&& (63 : Int32)) = (33 : Int32) then
  (chk (inb (x3 + (1 : Int32)) sL) (
  chk (inb (x3 + (2 : Int32)) sL) (
  bnd (f_X9_shared N S (xs (x3 + (1 : Int32)).toNatClampNeg) (xs (x3 + (2 : Int32)).toNatClampNeg)) fun q214 =>
 chk (inb (x3 + (1 : Int32)) sL) (
  chk (inb (x3 + (2 : Int32)) sL) (
  bnd (f_X10_shared N q214.2 (xs (x3 + (1 : Int32)).toNatClampNeg) (xs (x3 + (2 : Int32)).toNatClampNeg)) fun q217 =>
 if q214.1 = q217 then
  (lt (x3 + (6 : Int32)) fun v218 =>
  f_L_law_b18 xs sL N n v218 q214.2)
  else
  (some ((0 : Int32), q214.2)))))))
  else if ((xs x3.toNatClampNeg) &&& (63 : Int32)) = (34 : Int32) then
  (chk (inb (x3 + (1 : Int32)) sL) (
  chk (inb (x3 + (2 : Int32)) sL) (
  bnd (f_X9_ends N S (xs (x3 + (1 : Int32)).toNatClampNeg) (xs (x3 + (2 : Int32)).toNatClampNeg)) fun q221 =>
 chk (inb (x3 + (1 : Int32)) sL) (
  chk (inb (x3 + (2 : Int32)) sL) (
  bnd (f_X10_ends N q221.2 (xs (x3 + (1 : Int32)).toNatClampNeg) (xs (x3 + (2 : Int32)).toNatClampNeg)) fun q224 =>
 if q221.1 = q224.1 then
  (lt (x3 + (6 : Int32)) fun v225 =>
  f_L_law_b18 xs sL N n v225 q224.2)
  else
  (some ((0 : Int32), q224.2)))))))
  else if ((xs x3.toNatClampNeg) &&& (63 : Int32)) = (35 : Int32) then
  (chk (inb (x3 + (1 : Int32)) sL) (
  chk (inb (x3 + (2 : Int32)) sL) (
  bnd (f_X9_endsFirst N S (xs (x3 + (1 : Int32)).toNatClampNeg) (xs (x3 + (2 : Int32)).toNatClampNeg)) fun q228 =>
 chk (inb (x3 + (1 : Int32)) sL) (
  chk (inb (x3 + (2 : Int32)) sL) (
  bnd (f_X10_endsFirst N q228.2 (xs (x3 + (1 : Int32)).toNatClampNeg) (xs (x3 + (2 : Int32)).toNatClampNeg)) fun q231 =>
 if q228.1 = q231.1 then
  (lt (x3 + (6 : Int32)) fun v232 =>
  f_L_law_b18 xs sL N n v232 q231.2)
  else
  (some ((0 : Int32), q231.2)))))))
  else if ((xs x3.toNatClampNeg) &&& (63 : Int32)) = (36 : Int32) then
  (chk (inb (x3 + (1 : Int32)) sL) (
  chk (inb (x3 + (2 : Int32)) sL) (
  chk (inb (x3 + (3 : Int32)) sL) (
  if (xs (x3 + (3 : Int32)).toNatClampNeg) = (0 : Int32) then
  (bnd (f_X9_patches N S (xs (x3 + (1 : Int32)).toNatClampNeg) (xs (x3 + (2 : Int32)).toNatClampNeg) (0 : Int32)) fun q236 =>
 chk (inb (x3 + (1 : Int32)) sL) (
  chk (inb (x3 + (2 : Int32)) sL) (
  chk (inb (x3 + (3 : Int32)) sL) (
  if (xs (x3 + (3 : Int32)).toNatClampNeg) = (0 : Int32) then
  (bnd (f_X10_patches N q236.2 (xs (x3 + (1 : Int32)).toNatClampNeg) (xs (x3 + (2 : Int32)).toNatClampNeg) (0 : Int32)) fun q240 =>
 if q236.1 = q240.1 then
  (lt (x3 + (6 : Int32)) fun v241 =>
  f_L_law_b18 xs sL N n v241 q240.2)
  else
  (some ((0 : Int32), q240.2)))
  else
  (bnd (f_X10_patches N q236.2 (xs (x3 + (1 : Int32)).toNatClampNeg) (xs (x3 + (2 : Int32)).toNatClampNeg) (1 : Int32)) fun q242 =>
 if q236.1 = q242.1 then
  (lt (x3 + (6 : Int32)) fun v243 =>
  f_L_law_b18 xs sL N n v243 q242.2)
  else
  (some ((0 : Int32), q242.2)))))))
  else
  (bnd (f_X9_patches N S (xs (x3 + (1 : Int32)).toNatClampNeg) (xs (x3 + (2 : Int32)).toNatClampNeg) (1 : Int32)) fun q244 =>
 chk (inb (x3 + (1 : Int32)) sL) (
  chk (inb (x3 + (2 : Int32)) sL) (
  chk (inb (x3 + (3 : Int32)) sL) (
  if (xs (x3 + (3 : Int32)).toNatClampNeg) = (0 : Int32) then
  (bnd (f_X10_patches N q244.2 (xs (x3 + (1 : Int32)).toNatClampNeg) (xs (x3 + (2 : Int32)).toNatClampNeg) (0 : Int32)) fun q248 =>
 if q244.1 = q248.1 then
  (lt (x3 + (6 : Int32)) fun v249 =>
  f_L_law_b18 xs sL N n v249 q248.2)
  else
  (some ((0 : Int32), q248.2)))
  else
  (bnd (f_X10_patches N q244.2 (xs (x3 + (1 : Int32)).toNatClampNeg) (xs (x3 + (2 : Int32)).toNatClampNeg) (1 : Int32)) fun q250 =>
 if q244.1 = q250.1 then
  (lt (x3 + (6 : Int32)) fun v251 =>
  f_L_law_b18 xs sL N n v251 q250.2)
  else
  (some ((0 : Int32), q250.2)))))))))))
  else if ((xs x3.toNatClampNeg) &&& (63 : Int32)) = (37 : Int32) then
  (chk (inb (x3 + (1 : Int32)) sL) (
  chk (inb (x3 + (2 : Int32)) sL) (
  chk (inb (x3 + (3 : Int32)) sL) (
  bnd (f_X9_plan N S (xs (x3 + (1 : Int32)).toNatClampNeg) (xs (x3 + (2 : Int32)).toNatClampNeg) (xs (x3 + (3 : Int32)).toNatClampNeg)) fun q255 =>
 chk (inb (x3 + (1 : Int32)) sL) (
  chk (inb (x3 + (2 : Int32)) sL) (
  chk (inb (x3 + (3 : Int32)) sL) (
  bnd (f_X10_plan N q255.2 (xs (x3 + (1 : Int32)).toNatClampNeg) (xs (x3 + (2 : Int32)).toNatClampNeg) (xs (x3 + (3 : Int32)).toNatClampNeg)) fun q259 =>
 if q255.1 = q259.1 then
  (lt (x3 + (6 : Int32)) fun v260 =>
  f_L_law_b18 xs sL N n v260 q259.2)
  else
  (some ((0 : Int32), q259.2)))))))))
  else if ((xs x3.toNatClampNeg) &&& (63 : Int32)) = (38 : Int32) then
  (chk (inb (x3 + (1 : Int32)) sL) (
  bnd (f_X9_best N S (xs (x3 + (1 : Int32)).toNatClampNeg)) fun q262 =>
 chk (inb (x3 + (1 : Int32)) sL) (
  bnd (f_X10_best N q262.2 (xs (x3 + (1 : Int32)).toNatClampNeg)) fun q264 =>
 if q262.1 = q264.1 then
  (lt (x3 + (6 : Int32)) fun v265 =>
  f_L_law_b18 xs sL N n v265 q264.2)
  else
  (some ((0 : Int32), q264.2)))))
  else if ((xs x3.toNatClampNeg) &&& (63 : Int32)) = (39 : Int32) then
  (chk (inb (x3 + (1 : Int32)) sL) (
  chk (inb (x3 + (2 : Int32)) sL) (
  if (xs (x3 + (2 : Int32)).toNatClampNeg) = (0 : Int32) then
  (bnd (f_X9_which N S (xs (x3 + (1 : Int32)).toNatClampNeg) (0 : Int32)) fun q268 =>
 chk (inb (x3 + (1 : Int32)) sL) (
  chk (inb (x3 + (2 : Int32)) sL) (
  if (xs (x3 + (2 : Int32)).toNatClampNeg) = (0 : Int32) then
  (bnd (f_X10_which N q268.2 (xs (x3 + (1 : Int32)).toNatClampNeg) (0 : Int32)) fun q271 =>
 if q268.1 = q271.1 then
  (lt (x3 + (6 : Int32)) fun v272 =>
  f_L_law_b18 xs sL N n v272 q271.2)
  else
  (some ((0 : Int32), q271.2)))
  else
  (bnd (f_X10_which N q268.2 (xs (x3 + (1 : Int32)).toNatClampNeg) (1 : Int32)) fun q273 =>
 if q268.1 = q273.1 then
  (lt (x3 + (6 : Int32)) fun v274 =>
  f_L_law_b18 xs sL N n v274 q273.2)
  else
  (some ((0 : Int32), q273.2))))))
  else
  (bnd (f_X9_which N S (xs (x3 + (1 : Int32)).toNatClampNeg) (1 : Int32)) fun q275 =>
 chk (inb (x3 + (1 : Int32)) sL) (
  chk (inb (x3 + (2 : Int32)) sL) (
  if (xs (x3 + (2 : Int32)).toNatClampNeg) = (0 : Int32) then
  (bnd (f_X10_which N q275.2 (xs (x3 + (1 : Int32)).toNatClampNeg) (0 : Int32)) fun q278 =>
 if q275.1 = q278.1 then
  (lt (x3 + (6 : Int32)) fun v279 =>
  f_L_law_b18 xs sL N n v279 q278.2)
  else
  (some ((0 : Int32), q278.2)))
  else
  (bnd (f_X10_which N q275.2 (xs (x3 + (1 : Int32)).toNatClampNeg) (1 : Int32)) fun q280 =>
 if q275.1 = q280.1 then
  (lt (x3 + (6 : Int32)) fun v281 =>
  f_L_law_b18 xs sL N n v281 q280.2)
  else
  (some ((0 : Int32), q280.2)))))))))
  else if ((xs x3.toNatClampNeg) &&& (63 : Int32)) = (40 : Int32) then
  (chk (inb (x3 + (1 : Int32)) sL) (
  chk (inb (x3 + (2 : Int32)) sL) (
  if (xs (x3 + (2 : Int32)).toNatClampNeg) = (0 : Int32) then
  (bnd (f_X9_likely N S (xs (x3 + (1 : Int32)).toNatClampNeg) (0 : Int32)) fun q284 =>
 chk (inb (x3 + (1 : Int32)) sL) (
  chk (inb (x3 + (2 : Int32)) sL) (
  if (xs (x3 + (2 : Int32)).toNatClampNeg) = (0 : Int32) then
  (bnd (f_X10_likely N q284.2 (xs (x3 + (1 : Int32)).toNatClampNeg) (0 : Int32)) fun q287 =>
 if q284.1 = q287.1 then
  (lt (x3 + (6 : Int32)) fun v288 =>
  f_L_law_b18 xs sL N n v288 q287.2)
  else
  (some ((0 : Int32), q287.2)))
  else
  (bnd (f_X10_likely N q284.2 (xs (x3 + (1 : Int32)).toNatClampNeg) (1 : Int32)) fun q289 =>
 if q284.1 = q289.1 then
  (lt (x3 + (6 : Int32)) fun v290 =>
  f_L_law_b18 xs sL N n v290 q289.2)
  else
  (some ((0 : Int32), q289.2))))))
  else
  (bnd (f_X9_likely N S (xs (x3 + (1 : Int32)).toNatClampNeg) (1 : Int32)) fun q291 =>
 chk (inb (x3 + (1 : Int32)) sL) (
  chk (inb (x3 + (2 : Int32)) sL) (
  if (xs (x3 + (2 : Int32)).toNatClampNeg) = (0 : Int32) then
  (bnd (f_X10_likely N q291.2 (xs (x3 + (1 : Int32)).toNatClampNeg) (0 : Int32)) fun q294 =>
 if q291.1 = q294.1 then
  (lt (x3 + (6 : Int32)) fun v295 =>
  f_L_law_b18 xs sL N n v295 q294.2)
  else
  (some ((0 : Int32), q294.2)))
  else
  (bnd (f_X10_likely N q291.2 (xs (x3 + (1 : Int32)).toNatClampNeg) (1 : Int32)) fun q296 =>
 if q291.1 = q296.1 then
  (lt (x3 + (6 : Int32)) fun v297 =>
  f_L_law_b18 xs sL N n v297 q296.2)
  else
  (some ((0 : Int32), q296.2)))))))))
  else if ((xs x3.toNatClampNeg) &&& (63 : Int32)) = (41 : Int32) then
  (bnd (f_X9_thin N S ) fun q298 =>
 bnd (f_X10_thin N S ) fun q299 =>
 if q298 = q299 then
  (lt (x3 + (6 : Int32)) fun v300 =>
  f_L_law_b18 xs sL N n v300 S)
  else
  (some ((0 : Int32), S)))
  else if ((xs x3.toNatClampNeg) &&& (63 : Int32)) = (42 : Int32) then
  (bnd (f_X9_thick N S ) fun q301 =>
 bnd (f_X10_thick N S ) fun q302 =>
 if q301 = q302 then
  (lt (x3 + (6 : Int32)) fun v303 =>
  f_L_law_b18 xs sL N n v303 S)
  else
  (some ((0 : Int32), S)))
  else if ((xs x3.toNatClampNeg) &&& (63 : Int32)) = (43 : Int32) then
  (bnd (f_X9_apart N S ) fun q304 =>
 bnd (f_X10_apart N S ) fun q305 =>
 if q304 = q305 then
  (lt (x3 + (6 : Int32)) fun v306 =>
  f_L_law_b18 xs sL N n v306 S)
  else
  (some ((0 : Int32), S)))
  else if ((xs x3.toNatClampNeg) &&& (63 : Int32)) = (44 : Int32) then
  (bnd (f_X9_fallen N S ) fun q307 =>
 bnd (f_X10_fallen N S ) fun q308 =>
 if q307 = q308 then
  (lt (x3 + (6 : Int32)) fun v309 =>
  f_L_law_b18 xs sL N n v309 S)
  else
  (some ((0 : Int32), S)))
  else if ((xs x3.toNatClampNeg) &&& (63 : Int32)) = (45 : Int32) then
  (chk (inb (x3 + (1 : Int32)) sL) (
  chk (inb (x3 + (2 : Int32)) sL) (
  chk (inb (x3 + (3 : Int32)) sL) (
  bnd (f_X9_said S (xs (x3 + (1 : Int32)).toNatClampNeg) (xs (x3 + (2 : Int32)).toNatClampNeg) (xs (x3 + (3 : Int32)).toNatClampNeg)) fun q313 =>
 chk (inb (x3 + (1 : Int32)) sL) (
  chk (inb (x3 + (2 : Int32)) sL) (
  chk (inb (x3 + (3 : Int32)) sL) (
  bnd (f_X10_said q313.2 (xs (x3 + (1 : Int32)).toNatClampNeg) (xs (x3 + (2 : Int32)).toNatClampNeg) (xs (x3 + (3 : Int32)).toNatClampNeg)) fun q317 =>
 if q313.1 = q317.1 then
  (lt (x3 + (6 : Int32)) fun v318 =>
  f_L_law_b18 xs sL N n v318 q317.2)
  else
  (some ((0 : Int32), q317.2)))))))))
  else if ((xs x3.toNatClampNeg) &&& (63 : Int32)) = (46 : Int32) then
  (bnd (f_X9_whose N S ) fun q319 =>
 bnd (f_X10_whose N q319.2 ) fun q320 =>
 if q319.1 = q320.1 then
  (lt (x3 + (6 : Int32)) fun v321 =>
  f_L_law_b18 xs sL N n v321 q320.2)
  else
  (some ((0 : Int32), q320.2)))
  else if ((xs x3.toNatClampNeg) &&& (63 : Int32)) = (47 : Int32) then
  (chk (inb (x3 + (1 : Int32)) sL) (
  bnd (f_X9_ledger N S (xs (x3 + (1 : Int32)).toNatClampNeg)) fun q323 =>
 chk (inb (x3 + (1 : Int32)) sL) (
  bnd (f_X10_ledger N S (xs (x3 + (1 : Int32)).toNatClampNeg)) fun q325 =>
 if q323 = q325 then
  (lt (x3 + (6 : Int32)) fun v326 =>
  f_L_law_b18 xs sL N n v326 S)
  else
  (some ((0 : Int32), S)))))
  else if ((xs x3.toNatClampNeg) &&& (63 : Int32)) = (48 : Int32) then
  (bnd (f_X9_image N S ) fun q327 =>
 bnd (f_X10_image N q327.2 ) fun q328 =>
 if q327.1 = q328.1 then
  (lt (x3 + (6 : Int32)) fun v329 =>
  f_L_law_b18 xs sL N n v329 q328.2)
  else
  (some ((0 : Int32), q328.2)))
  else if ((xs x3.toNatClampNeg) &&& (63 : Int32)) = (49 : Int32) then
  (bnd (f_X9_back N S ) fun q330 =>
 bnd (f_X10_back N q330.2 ) fun q331 =>
 if q330.1 = q331.1 then
  (lt (x3 + (6 : Int32)) fun v332 =>
  f_L_law_b18 xs sL N n v332 q331.2)
  else
  (some ((0 : Int32), q331.2)))
  else if ((xs x3.toNatClampNeg) &&& (63 : Int32)) = (50 : Int32) then
  (chk (inb (x3 + (1 : Int32)) sL) (
  bnd (f_X9_about S (xs (x3 + (1 : Int32)).toNatClampNeg)) fun q334 =>
 chk (inb (x3 + (1 : Int32)) sL) (
  bnd (f_X10_about S (xs (x3 + (1 : Int32)).toNatClampNeg)) fun q336 =>
 if q334 = q336 then
  (lt (x3 + (6 : Int32)) fun v337 =>
  f_L_law_b18 xs sL N n v337 S)
  else
  (some ((0 : Int32), S)))))
  else (lt (x3 + (6 : Int32)) fun v338 =>
  f_L_law_b18 xs sL N n v338 S)))
set_option maxRecDepth 100000 in
set_option maxHeartbeats 4000000 in
theorem tb_L_law_18 {l : Launch} {G : v_G} {N : Nat}   {r : Int32 × St}   : ∀ (n : Nat) (cc0 ss0 : Nat) (hc0 : cc0 + 28 * n ≤ 14668) (hs0 : ss0 + 8200 * n ≤ 4222428) (x3 : Int32) (S : St),  f_L_law_b18 (v_xs G) (v_sL G) N n x3 S = some r → V l G yL_law cL_law 4 (some .boolean) room_1 (QI r.1 (lay G r.2)) cc0 ss0 18 [(0, .ref (v_sb G)), (1, .ref (v_B G + 0)), (2, .ref (v_B G + 291)), (3, .int x3)] [] (lay G S) := by
  intro n
  induction n with
  | zero =>
    intro cc0 ss0 hc0 hs0 x3 S  hh
    rw [f_L_law_b18] at hh
    cases hh
  | succ n ih =>
    intro cc0 ss0 hc0 hs0 x3 S  hh
    rw [f_L_law_b18] at hh
    refine v_iload_n 3 dL_law_18 rfl rfl ?_
    refine v_aload_n 0 dL_law_19 rfl rfl ?_
    refine v_slen dL_law_20 ?_
    refine v_bipush dL_law_21 (by decide : _ = (6 : Int32)) ?_
    refine v_isub dL_law_23 ?_
    refine v_icmp_gt (tgt := 1647) dL_law_24 (by decide) (fun c => ?_) (fun c => ?_)
    · replace hh := (if_pos c).symm.trans hh
      refine v_iconst dL_law_1647 (by decide : _ = (1 : Int32)) ?_
      obtain rfl := Option.some.inj hh
      exact v_zret dL_law_1648 rfl (zb (by decide)).1 (by show _ ≤ 600000; omega) (by show _ ≤ 7302249; omega) ⟨rfl, rfl⟩
    · replace hh := (if_neg c).symm.trans hh
      refine v_aload_n 0 dL_law_27 rfl rfl ?_
      refine v_iload_n 3 dL_law_28 rfl rfl ?_
      obtain ⟨g1, hh⟩ := chk_some hh
      replace g1 := inb_in g1
      refine v_sld dL_law_29 g1 ?_
      refine v_bipush dL_law_30 (by decide : _ = (63 : Int32)) ?_
      refine v_iand dL_law_32 ?_
      refine sw_if hh (fun c0 hh => ?_) (fun c0 hh => ?_)
      · skip
        refine v_tableIn (tgt := 252) dL_law_33 (by rw [c0]; decide) (by rw [c0]; decide) (by rw [c0] <;> rfl) (by decide) ?_
        refine v_aload_n 1 dL_law_252 rfl rfl ?_
        refine v_aload_n 0 dL_law_253 rfl rfl ?_
        refine v_iload_n 3 dL_law_254 rfl rfl ?_
        refine v_iconst dL_law_255 (by decide : _ = (1 : Int32)) ?_
        refine v_iadd dL_law_256 ?_
        obtain ⟨g2, hh⟩ := chk_some hh
        replace g2 := inb_in g2
        refine v_sld dL_law_257 g2 ?_
        obtain ⟨q3, eq3, hh⟩ := bnd_some hh
        refine v_callVi (t_X9_hand eq3) dL_law_258 y_X9_hand ml_L_13 (ci := 8) rfl rfl (e_RolledOut) rfl rfl (Nat.le_of_ble_eq_true rfl) ⟨(Nat.le_of_ble_eq_true rfl), (Nat.le_of_ble_eq_true rfl)⟩ ⟨by show _ ≤ 600000; omega, by show _ ≤ 7302249; omega⟩ ?_
        refine v_aload_n 2 dL_law_261 rfl rfl ?_
        refine v_aload_n 0 dL_law_262 rfl rfl ?_
        refine v_iload_n 3 dL_law_263 rfl rfl ?_
        refine v_iconst dL_law_264 (by decide : _ = (1 : Int32)) ?_
        refine v_iadd dL_law_265 ?_
        obtain ⟨g4, hh⟩ := chk_some hh
        replace g4 := inb_in g4
        refine v_sld dL_law_266 g4 ?_
        obtain ⟨q5, eq5, hh⟩ := bnd_some hh
        refine v_callVi (t_X10_hand eq5) dL_law_267 y_X10_hand ml_L_17 (ci := 9) rfl rfl (e_Model) rfl rfl (Nat.le_of_ble_eq_true rfl) ⟨(Nat.le_of_ble_eq_true rfl), (Nat.le_of_ble_eq_true rfl)⟩ ⟨by show _ ≤ 600000; omega, by show _ ≤ 7302249; omega⟩ ?_
        refine v_icmp_eq (tgt := 1641) dL_law_270 (by decide) (fun c => ?_) (fun c => ?_)
        · replace hh := (if_pos c).symm.trans hh
          refine v_iinc (v := _ + (6 : Int32)) 3 dL_law_1641 rfl rfl (by decide) rfl ?_
          replace hh := lt_of hh
          refine v_goto (tgt := 18) dL_law_1644 (by decide) ?_
          exact v_sub [1, 2, 3, 0] rfl (ih (cc0) (ss0) (by omega) (by omega) _ _ hh)
        · replace hh := (if_neg c).symm.trans hh
          refine v_iconst dL_law_273 (by decide : _ = (0 : Int32)) ?_
          obtain rfl := Option.some.inj hh
          exact v_zret dL_law_274 rfl (zb (by decide)).1 (by show _ ≤ 600000; omega) (by show _ ≤ 7302249; omega) ⟨rfl, rfl⟩
      · skip
        refine sw_if hh (fun c1 hh => ?_) (fun c1 hh => ?_)
        · skip
          refine v_tableIn (tgt := 275) dL_law_33 (by rw [c1]; decide) (by rw [c1]; decide) (by rw [c1] <;> rfl) (by decide) ?_
          refine v_aload_n 1 dL_law_275 rfl rfl ?_
          refine v_aload_n 0 dL_law_276 rfl rfl ?_
          refine v_iload_n 3 dL_law_277 rfl rfl ?_
          refine v_iconst dL_law_278 (by decide : _ = (1 : Int32)) ?_
          refine v_iadd dL_law_279 ?_
          obtain ⟨g7, hh⟩ := chk_some hh
          replace g7 := inb_in g7
          refine v_sld dL_law_280 g7 ?_
          refine v_aload_n 0 dL_law_281 rfl rfl ?_
          refine v_iload_n 3 dL_law_282 rfl rfl ?_
          refine v_iconst dL_law_283 (by decide : _ = (2 : Int32)) ?_
          refine v_iadd dL_law_284 ?_
          obtain ⟨g8, hh⟩ := chk_some hh
          replace g8 := inb_in g8
          refine v_sld dL_law_285 g8 ?_
          obtain ⟨q9, eq9, hh⟩ := bnd_some hh
          refine v_callVi (t_X9_dough eq9) dL_law_286 y_X9_dough ml_L_18 (ci := 8) rfl rfl (e_RolledOut) rfl rfl (Nat.le_of_ble_eq_true rfl) ⟨(Nat.le_of_ble_eq_true rfl), (Nat.le_of_ble_eq_true rfl)⟩ ⟨by show _ ≤ 600000; omega, by show _ ≤ 7302249; omega⟩ ?_
          refine v_aload_n 2 dL_law_289 rfl rfl ?_
          refine v_aload_n 0 dL_law_290 rfl rfl ?_
          refine v_iload_n 3 dL_law_291 rfl rfl ?_
          refine v_iconst dL_law_292 (by decide : _ = (1 : Int32)) ?_
          refine v_iadd dL_law_293 ?_
          obtain ⟨g10, hh⟩ := chk_some hh
          replace g10 := inb_in g10
          refine v_sld dL_law_294 g10 ?_
          refine v_aload_n 0 dL_law_295 rfl rfl ?_
          refine v_iload_n 3 dL_law_296 rfl rfl ?_
          refine v_iconst dL_law_297 (by decide : _ = (2 : Int32)) ?_
          refine v_iadd dL_law_298 ?_
          obtain ⟨g11, hh⟩ := chk_some hh
          replace g11 := inb_in g11
          refine v_sld dL_law_299 g11 ?_
          obtain ⟨q12, eq12, hh⟩ := bnd_some hh
          refine v_callVi (t_X10_dough eq12) dL_law_300 y_X10_dough ml_L_22 (ci := 9) rfl rfl (e_Model) rfl rfl (Nat.le_of_ble_eq_true rfl) ⟨(Nat.le_of_ble_eq_true rfl), (Nat.le_of_ble_eq_true rfl)⟩ ⟨by show _ ≤ 600000; omega, by show _ ≤ 7302249; omega⟩ ?_
          refine v_icmp_eq (tgt := 1641) dL_law_303 (by decide) (fun c => ?_) (fun c => ?_)
          · replace hh := (if_pos c).symm.trans hh
            refine v_iinc (v := _ + (6 : Int32)) 3 dL_law_1641 rfl rfl (by decide) rfl ?_
            replace hh := lt_of hh
            refine v_goto (tgt := 18) dL_law_1644 (by decide) ?_
            exact v_sub [1, 2, 3, 0] rfl (ih (cc0) (ss0) (by omega) (by omega) _ _ hh)
          · replace hh := (if_neg c).symm.trans hh
            refine v_iconst dL_law_306 (by decide : _ = (0 : Int32)) ?_
            obtain rfl := Option.some.inj hh
            exact v_zret dL_law_307 rfl (zb (by decide)).1 (by show _ ≤ 600000; omega) (by show _ ≤ 7302249; omega) ⟨rfl, rfl⟩
        · skip
          refine sw_if hh (fun c2 hh => ?_) (fun c2 hh => ?_)
          · skip
            refine v_tableIn (tgt := 308) dL_law_33 (by rw [c2]; decide) (by rw [c2]; decide) (by rw [c2] <;> rfl) (by decide) ?_
            refine v_aload_n 1 dL_law_308 rfl rfl ?_
            refine v_aload_n 0 dL_law_309 rfl rfl ?_
            refine v_iload_n 3 dL_law_310 rfl rfl ?_
            refine v_iconst dL_law_311 (by decide : _ = (1 : Int32)) ?_
            refine v_iadd dL_law_312 ?_
            obtain ⟨g14, hh⟩ := chk_some hh
            replace g14 := inb_in g14
            refine v_sld dL_law_313 g14 ?_
            obtain ⟨q15, eq15, hh⟩ := bnd_some hh
            refine v_callVi (t_X9_town eq15) dL_law_314 y_X9_town ml_L_23 (ci := 8) rfl rfl (e_RolledOut) rfl rfl (Nat.le_of_ble_eq_true rfl) ⟨(Nat.le_of_ble_eq_true rfl), (Nat.le_of_ble_eq_true rfl)⟩ ⟨by show _ ≤ 600000; omega, by show _ ≤ 7302249; omega⟩ ?_
            refine v_aload_n 2 dL_law_317 rfl rfl ?_
            refine v_aload_n 0 dL_law_318 rfl rfl ?_
            refine v_iload_n 3 dL_law_319 rfl rfl ?_
            refine v_iconst dL_law_320 (by decide : _ = (1 : Int32)) ?_
            refine v_iadd dL_law_321 ?_
            obtain ⟨g16, hh⟩ := chk_some hh
            replace g16 := inb_in g16
            refine v_sld dL_law_322 g16 ?_
            obtain ⟨q17, eq17, hh⟩ := bnd_some hh
            refine v_callVi (t_X10_town eq17) dL_law_323 y_X10_town ml_L_26 (ci := 9) rfl rfl (e_Model) rfl rfl (Nat.le_of_ble_eq_true rfl) ⟨(Nat.le_of_ble_eq_true rfl), (Nat.le_of_ble_eq_true rfl)⟩ ⟨by show _ ≤ 600000; omega, by show _ ≤ 7302249; omega⟩ ?_
            refine v_icmp_eq (tgt := 1641) dL_law_326 (by decide) (fun c => ?_) (fun c => ?_)
            · replace hh := (if_pos c).symm.trans hh
              refine v_iinc (v := _ + (6 : Int32)) 3 dL_law_1641 rfl rfl (by decide) rfl ?_
              replace hh := lt_of hh
              refine v_goto (tgt := 18) dL_law_1644 (by decide) ?_
              exact v_sub [1, 2, 3, 0] rfl (ih (cc0) (ss0) (by omega) (by omega) _ _ hh)
            · replace hh := (if_neg c).symm.trans hh
              refine v_iconst dL_law_329 (by decide : _ = (0 : Int32)) ?_
              obtain rfl := Option.some.inj hh
              exact v_zret dL_law_330 rfl (zb (by decide)).1 (by show _ ≤ 600000; omega) (by show _ ≤ 7302249; omega) ⟨rfl, rfl⟩
          · skip
            refine sw_if hh (fun c3 hh => ?_) (fun c3 hh => ?_)
            · skip
              refine v_tableIn (tgt := 331) dL_law_33 (by rw [c3]; decide) (by rw [c3]; decide) (by rw [c3] <;> rfl) (by decide) ?_
              refine v_aload_n 1 dL_law_331 rfl rfl ?_
              refine v_aload_n 0 dL_law_332 rfl rfl ?_
              refine v_iload_n 3 dL_law_333 rfl rfl ?_
              refine v_iconst dL_law_334 (by decide : _ = (1 : Int32)) ?_
              refine v_iadd dL_law_335 ?_
              obtain ⟨g19, hh⟩ := chk_some hh
              replace g19 := inb_in g19
              refine v_sld dL_law_336 g19 ?_
              refine v_aload_n 0 dL_law_337 rfl rfl ?_
              refine v_iload_n 3 dL_law_338 rfl rfl ?_
              refine v_iconst dL_law_339 (by decide : _ = (2 : Int32)) ?_
              refine v_iadd dL_law_340 ?_
              obtain ⟨g20, hh⟩ := chk_some hh
              replace g20 := inb_in g20
              refine v_sld dL_law_341 g20 ?_
              refine v_aload_n 0 dL_law_342 rfl rfl ?_
              refine v_iload_n 3 dL_law_343 rfl rfl ?_
              refine v_iconst dL_law_344 (by decide : _ = (3 : Int32)) ?_
              refine v_iadd dL_law_345 ?_
              obtain ⟨g21, hh⟩ := chk_some hh
              replace g21 := inb_in g21
              refine v_sld dL_law_346 g21 ?_
              refine v_aload_n 0 dL_law_347 rfl rfl ?_
              refine v_iload_n 3 dL_law_348 rfl rfl ?_
              refine v_iconst dL_law_349 (by decide : _ = (4 : Int32)) ?_
              refine v_iadd dL_law_350 ?_
              obtain ⟨g22, hh⟩ := chk_some hh
              replace g22 := inb_in g22
              refine v_sld dL_law_351 g22 ?_
              refine v_aload_n 0 dL_law_352 rfl rfl ?_
              refine v_iload_n 3 dL_law_353 rfl rfl ?_
              refine v_iconst dL_law_354 (by decide : _ = (5 : Int32)) ?_
              refine v_iadd dL_law_355 ?_
              obtain ⟨g23, hh⟩ := chk_some hh
              replace g23 := inb_in g23
              refine v_sld dL_law_356 g23 ?_
              obtain ⟨q24, eq24, hh⟩ := bnd_some hh
              refine v_callVi (t_X9_feed eq24) dL_law_357 y_X9_feed ml_L_27 (ci := 8) rfl rfl (e_RolledOut) rfl rfl (Nat.le_of_ble_eq_true rfl) ⟨(Nat.le_of_ble_eq_true rfl), (Nat.le_of_ble_eq_true rfl)⟩ ⟨by show _ ≤ 600000; omega, by show _ ≤ 7302249; omega⟩ ?_
              refine v_aload_n 2 dL_law_360 rfl rfl ?_
              refine v_aload_n 0 dL_law_361 rfl rfl ?_
              refine v_iload_n 3 dL_law_362 rfl rfl ?_
              refine v_iconst dL_law_363 (by decide : _ = (1 : Int32)) ?_
              refine v_iadd dL_law_364 ?_
              obtain ⟨g25, hh⟩ := chk_some hh
              replace g25 := inb_in g25
              refine v_sld dL_law_365 g25 ?_
              refine v_aload_n 0 dL_law_366 rfl rfl ?_
              refine v_iload_n 3 dL_law_367 rfl rfl ?_
              refine v_iconst dL_law_368 (by decide : _ = (2 : Int32)) ?_
              refine v_iadd dL_law_369 ?_
              obtain ⟨g26, hh⟩ := chk_some hh
              replace g26 := inb_in g26
              refine v_sld dL_law_370 g26 ?_
              refine v_aload_n 0 dL_law_371 rfl rfl ?_
              refine v_iload_n 3 dL_law_372 rfl rfl ?_
              refine v_iconst dL_law_373 (by decide : _ = (3 : Int32)) ?_
              refine v_iadd dL_law_374 ?_
              obtain ⟨g27, hh⟩ := chk_some hh
              replace g27 := inb_in g27
              refine v_sld dL_law_375 g27 ?_
              refine v_aload_n 0 dL_law_376 rfl rfl ?_
              refine v_iload_n 3 dL_law_377 rfl rfl ?_
              refine v_iconst dL_law_378 (by decide : _ = (4 : Int32)) ?_
              refine v_iadd dL_law_379 ?_
              obtain ⟨g28, hh⟩ := chk_some hh
              replace g28 := inb_in g28
              refine v_sld dL_law_380 g28 ?_
              refine v_aload_n 0 dL_law_381 rfl rfl ?_
              refine v_iload_n 3 dL_law_382 rfl rfl ?_
              refine v_iconst dL_law_383 (by decide : _ = (5 : Int32)) ?_
              refine v_iadd dL_law_384 ?_
              obtain ⟨g29, hh⟩ := chk_some hh
              replace g29 := inb_in g29
              refine v_sld dL_law_385 g29 ?_
              obtain ⟨q30, eq30, hh⟩ := bnd_some hh
              refine v_callVi (t_X10_feed eq30) dL_law_386 y_X10_feed ml_L_31 (ci := 9) rfl rfl (e_Model) rfl rfl (Nat.le_of_ble_eq_true rfl) ⟨(Nat.le_of_ble_eq_true rfl), (Nat.le_of_ble_eq_true rfl)⟩ ⟨by show _ ≤ 600000; omega, by show _ ≤ 7302249; omega⟩ ?_
              refine v_icmp_eq (tgt := 1641) dL_law_389 (by decide) (fun c => ?_) (fun c => ?_)
              · replace hh := (if_pos c).symm.trans hh
                refine v_iinc (v := _ + (6 : Int32)) 3 dL_law_1641 rfl rfl (by decide) rfl ?_
                replace hh := lt_of hh
                refine v_goto (tgt := 18) dL_law_1644 (by decide) ?_
                exact v_sub [1, 2, 3, 0] rfl (ih (cc0) (ss0) (by omega) (by omega) _ _ hh)
              · replace hh := (if_neg c).symm.trans hh
                refine v_iconst dL_law_392 (by decide : _ = (0 : Int32)) ?_
                obtain rfl := Option.some.inj hh
                exact v_zret dL_law_393 rfl (zb (by decide)).1 (by show _ ≤ 600000; omega) (by show _ ≤ 7302249; omega) ⟨rfl, rfl⟩
            · skip
              refine sw_if hh (fun c4 hh => ?_) (fun c4 hh => ?_)
              · skip
                refine v_tableIn (tgt := 394) dL_law_33 (by rw [c4]; decide) (by rw [c4]; decide) (by rw [c4] <;> rfl) (by decide) ?_
                refine v_aload_n 1 dL_law_394 rfl rfl ?_
                refine v_aload_n 0 dL_law_395 rfl rfl ?_
                refine v_iload_n 3 dL_law_396 rfl rfl ?_
                refine v_iconst dL_law_397 (by decide : _ = (1 : Int32)) ?_
                refine v_iadd dL_law_398 ?_
                obtain ⟨g32, hh⟩ := chk_some hh
                replace g32 := inb_in g32
                refine v_sld dL_law_399 g32 ?_
                obtain ⟨q33, eq33, hh⟩ := bnd_some hh
                refine v_callVi (t_X9_end eq33) dL_law_400 y_X9_end ml_L_32 (ci := 8) rfl rfl (e_RolledOut) rfl rfl (Nat.le_of_ble_eq_true rfl) ⟨(Nat.le_of_ble_eq_true rfl), (Nat.le_of_ble_eq_true rfl)⟩ ⟨by show _ ≤ 600000; omega, by show _ ≤ 7302249; omega⟩ ?_
                refine v_aload_n 2 dL_law_403 rfl rfl ?_
                refine v_aload_n 0 dL_law_404 rfl rfl ?_
                refine v_iload_n 3 dL_law_405 rfl rfl ?_
                refine v_iconst dL_law_406 (by decide : _ = (1 : Int32)) ?_
                refine v_iadd dL_law_407 ?_
                obtain ⟨g34, hh⟩ := chk_some hh
                replace g34 := inb_in g34
                refine v_sld dL_law_408 g34 ?_
                obtain ⟨q35, eq35, hh⟩ := bnd_some hh
                refine v_callVi (t_X10_end eq35) dL_law_409 y_X10_end ml_L_35 (ci := 9) rfl rfl (e_Model) rfl rfl (Nat.le_of_ble_eq_true rfl) ⟨(Nat.le_of_ble_eq_true rfl), (Nat.le_of_ble_eq_true rfl)⟩ ⟨by show _ ≤ 600000; omega, by show _ ≤ 7302249; omega⟩ ?_
                refine v_icmp_eq (tgt := 1641) dL_law_412 (by decide) (fun c => ?_) (fun c => ?_)
                · replace hh := (if_pos c).symm.trans hh
                  refine v_iinc (v := _ + (6 : Int32)) 3 dL_law_1641 rfl rfl (by decide) rfl ?_
                  replace hh := lt_of hh
                  refine v_goto (tgt := 18) dL_law_1644 (by decide) ?_
                  exact v_sub [1, 2, 3, 0] rfl (ih (cc0) (ss0) (by omega) (by omega) _ _ hh)
                · replace hh := (if_neg c).symm.trans hh
                  refine v_iconst dL_law_415 (by decide : _ = (0 : Int32)) ?_
                  obtain rfl := Option.some.inj hh
                  exact v_zret dL_law_416 rfl (zb (by decide)).1 (by show _ ≤ 600000; omega) (by show _ ≤ 7302249; omega) ⟨rfl, rfl⟩
              · skip
                refine sw_if hh (fun c5 hh => ?_) (fun c5 hh => ?_)
                · skip
                  refine v_tableIn (tgt := 417) dL_law_33 (by rw [c5]; decide) (by rw [c5]; decide) (by rw [c5] <;> rfl) (by decide) ?_
                  refine v_aload_n 1 dL_law_417 rfl rfl ?_
                  obtain ⟨q37, eq37, hh⟩ := bnd_some hh
                  refine v_callViA (t_X9_text eq37) dL_law_418 y_X9_text ml_L_36 (ci := 8) rfl rfl (e_RolledOut) rfl rfl (Nat.le_of_ble_eq_true rfl) ⟨(Nat.le_of_ble_eq_true rfl), (Nat.le_of_ble_eq_true rfl)⟩ ⟨by show _ ≤ 600000; omega, by show _ ≤ 7302249; omega⟩ ?_
                  refine v_aload_n 2 dL_law_421 rfl rfl ?_
                  obtain ⟨q38, eq38, hh⟩ := bnd_some hh
                  refine v_callVi (t_X10_text eq38) dL_law_422 y_X10_text ml_L_40 (ci := 9) rfl rfl (e_Model) rfl rfl (Nat.le_of_ble_eq_true rfl) ⟨(Nat.le_of_ble_eq_true rfl), (Nat.le_of_ble_eq_true rfl)⟩ ⟨by show _ ≤ 600000; omega, by show _ ≤ 7302249; omega⟩ ?_
                  refine v_icmp_eq (tgt := 1641) dL_law_425 (by decide) (fun c => ?_) (fun c => ?_)
                  · replace hh := (if_pos c).symm.trans hh
                    refine v_iinc (v := _ + (6 : Int32)) 3 dL_law_1641 rfl rfl (by decide) rfl ?_
                    replace hh := lt_of hh
                    refine v_goto (tgt := 18) dL_law_1644 (by decide) ?_
                    exact v_sub [1, 2, 3, 0] rfl (ih (cc0 + 28) (ss0 + 8200) (by omega) (by omega) _ _ hh)
                  · replace hh := (if_neg c).symm.trans hh
                    refine v_iconst dL_law_428 (by decide : _ = (0 : Int32)) ?_
                    obtain rfl := Option.some.inj hh
                    exact v_zret dL_law_429 rfl (zb (by decide)).1 (by show _ ≤ 600000; omega) (by show _ ≤ 7302249; omega) ⟨rfl, rfl⟩
                · skip
                  refine sw_if hh (fun c6 hh => ?_) (fun c6 hh => ?_)
                  · skip
                    refine v_tableIn (tgt := 430) dL_law_33 (by rw [c6]; decide) (by rw [c6]; decide) (by rw [c6] <;> rfl) (by decide) ?_
                    refine v_aload_n 1 dL_law_430 rfl rfl ?_
                    refine v_aload_n 0 dL_law_431 rfl rfl ?_
                    refine v_iload_n 3 dL_law_432 rfl rfl ?_
                    refine v_iconst dL_law_433 (by decide : _ = (1 : Int32)) ?_
                    refine v_iadd dL_law_434 ?_
                    obtain ⟨g40, hh⟩ := chk_some hh
                    replace g40 := inb_in g40
                    refine v_sld dL_law_435 g40 ?_
                    obtain ⟨q41, eq41, hh⟩ := bnd_some hh
                    refine v_callVi (t_X9_fault eq41) dL_law_436 y_X9_fault ml_L_41 (ci := 8) rfl rfl (e_RolledOut) rfl rfl (Nat.le_of_ble_eq_true rfl) ⟨(Nat.le_of_ble_eq_true rfl), (Nat.le_of_ble_eq_true rfl)⟩ ⟨by show _ ≤ 600000; omega, by show _ ≤ 7302249; omega⟩ ?_
                    refine v_aload_n 2 dL_law_439 rfl rfl ?_
                    refine v_aload_n 0 dL_law_440 rfl rfl ?_
                    refine v_iload_n 3 dL_law_441 rfl rfl ?_
                    refine v_iconst dL_law_442 (by decide : _ = (1 : Int32)) ?_
                    refine v_iadd dL_law_443 ?_
                    obtain ⟨g42, hh⟩ := chk_some hh
                    replace g42 := inb_in g42
                    refine v_sld dL_law_444 g42 ?_
                    obtain ⟨q43, eq43, hh⟩ := bnd_some hh
                    refine v_callVi (t_X10_fault eq43) dL_law_445 y_X10_fault ml_L_44 (ci := 9) rfl rfl (e_Model) rfl rfl (Nat.le_of_ble_eq_true rfl) ⟨(Nat.le_of_ble_eq_true rfl), (Nat.le_of_ble_eq_true rfl)⟩ ⟨by show _ ≤ 600000; omega, by show _ ≤ 7302249; omega⟩ ?_
                    refine v_icmp_eq (tgt := 1641) dL_law_448 (by decide) (fun c => ?_) (fun c => ?_)
                    · replace hh := (if_pos c).symm.trans hh
                      refine v_iinc (v := _ + (6 : Int32)) 3 dL_law_1641 rfl rfl (by decide) rfl ?_
                      replace hh := lt_of hh
                      refine v_goto (tgt := 18) dL_law_1644 (by decide) ?_
                      exact v_sub [1, 2, 3, 0] rfl (ih (cc0) (ss0) (by omega) (by omega) _ _ hh)
                    · replace hh := (if_neg c).symm.trans hh
                      refine v_iconst dL_law_451 (by decide : _ = (0 : Int32)) ?_
                      obtain rfl := Option.some.inj hh
                      exact v_zret dL_law_452 rfl (zb (by decide)).1 (by show _ ≤ 600000; omega) (by show _ ≤ 7302249; omega) ⟨rfl, rfl⟩
                  · skip
                    refine sw_if hh (fun c7 hh => ?_) (fun c7 hh => ?_)
                    · skip
                      refine v_tableIn (tgt := 453) dL_law_33 (by rw [c7]; decide) (by rw [c7]; decide) (by rw [c7] <;> rfl) (by decide) ?_
                      refine v_aload_n 1 dL_law_453 rfl rfl ?_
                      refine v_aload_n 0 dL_law_454 rfl rfl ?_
                      refine v_iload_n 3 dL_law_455 rfl rfl ?_
                      refine v_iconst dL_law_456 (by decide : _ = (1 : Int32)) ?_
                      refine v_iadd dL_law_457 ?_
                      obtain ⟨g45, hh⟩ := chk_some hh
                      replace g45 := inb_in g45
                      refine v_sld dL_law_458 g45 ?_
                      obtain ⟨q46, eq46, hh⟩ := bnd_some hh
                      refine v_callVi (t_X9_by eq46) dL_law_459 y_X9_by ml_L_45 (ci := 8) rfl rfl (e_RolledOut) rfl rfl (Nat.le_of_ble_eq_true rfl) ⟨(Nat.le_of_ble_eq_true rfl), (Nat.le_of_ble_eq_true rfl)⟩ ⟨by show _ ≤ 600000; omega, by show _ ≤ 7302249; omega⟩ ?_
                      refine v_aload_n 2 dL_law_462 rfl rfl ?_
                      refine v_aload_n 0 dL_law_463 rfl rfl ?_
                      refine v_iload_n 3 dL_law_464 rfl rfl ?_
                      refine v_iconst dL_law_465 (by decide : _ = (1 : Int32)) ?_
                      refine v_iadd dL_law_466 ?_
                      obtain ⟨g47, hh⟩ := chk_some hh
                      replace g47 := inb_in g47
                      refine v_sld dL_law_467 g47 ?_
                      obtain ⟨q48, eq48, hh⟩ := bnd_some hh
                      refine v_callVi (t_X10_by eq48) dL_law_468 y_X10_by ml_L_49 (ci := 9) rfl rfl (e_Model) rfl rfl (Nat.le_of_ble_eq_true rfl) ⟨(Nat.le_of_ble_eq_true rfl), (Nat.le_of_ble_eq_true rfl)⟩ ⟨by show _ ≤ 600000; omega, by show _ ≤ 7302249; omega⟩ ?_
                      refine v_icmp_eq (tgt := 1641) dL_law_471 (by decide) (fun c => ?_) (fun c => ?_)
                      · replace hh := (if_pos c).symm.trans hh
                        refine v_iinc (v := _ + (6 : Int32)) 3 dL_law_1641 rfl rfl (by decide) rfl ?_
                        replace hh := lt_of hh
                        refine v_goto (tgt := 18) dL_law_1644 (by decide) ?_
                        exact v_sub [1, 2, 3, 0] rfl (ih (cc0) (ss0) (by omega) (by omega) _ _ hh)
                      · replace hh := (if_neg c).symm.trans hh
                        refine v_iconst dL_law_474 (by decide : _ = (0 : Int32)) ?_
                        obtain rfl := Option.some.inj hh
                        exact v_zret dL_law_475 rfl (zb (by decide)).1 (by show _ ≤ 600000; omega) (by show _ ≤ 7302249; omega) ⟨rfl, rfl⟩
                    · skip
                      refine sw_if hh (fun c8 hh => ?_) (fun c8 hh => ?_)
                      · skip
                        refine v_tableIn (tgt := 476) dL_law_33 (by rw [c8]; decide) (by rw [c8]; decide) (by rw [c8] <;> rfl) (by decide) ?_
                        refine v_aload_n 1 dL_law_476 rfl rfl ?_
                        refine v_aload_n 0 dL_law_477 rfl rfl ?_
                        refine v_iload_n 3 dL_law_478 rfl rfl ?_
                        refine v_iconst dL_law_479 (by decide : _ = (1 : Int32)) ?_
                        refine v_iadd dL_law_480 ?_
                        obtain ⟨g50, hh⟩ := chk_some hh
                        replace g50 := inb_in g50
                        refine v_sld dL_law_481 g50 ?_
                        refine v_aload_n 0 dL_law_482 rfl rfl ?_
                        refine v_iload_n 3 dL_law_483 rfl rfl ?_
                        refine v_iconst dL_law_484 (by decide : _ = (2 : Int32)) ?_
                        refine v_iadd dL_law_485 ?_
                        obtain ⟨g51, hh⟩ := chk_some hh
                        replace g51 := inb_in g51
                        refine v_sld dL_law_486 g51 ?_
                        refine v_aload_n 0 dL_law_487 rfl rfl ?_
                        refine v_iload_n 3 dL_law_488 rfl rfl ?_
                        refine v_iconst dL_law_489 (by decide : _ = (3 : Int32)) ?_
                        refine v_iadd dL_law_490 ?_
                        obtain ⟨g52, hh⟩ := chk_some hh
                        replace g52 := inb_in g52
                        refine v_sld dL_law_491 g52 ?_
                        refine v_if_eq (tgt := 499) dL_law_492 (by decide) (fun c => ?_) (fun c => ?_)
                        · replace hh := (if_pos c).symm.trans hh
                          refine v_iconst dL_law_499 (by decide : _ = (0 : Int32)) ?_
                          obtain ⟨q53, eq53, hh⟩ := bnd_some hh
                          refine v_callVi (t_X9_stroke eq53) dL_law_500 y_X9_stroke ml_L_50 (ci := 8) rfl rfl (e_RolledOut) rfl rfl (Nat.le_of_ble_eq_true rfl) ⟨(Nat.le_of_ble_eq_true rfl), (Nat.le_of_ble_eq_true rfl)⟩ ⟨by show _ ≤ 600000; omega, by show _ ≤ 7302249; omega⟩ ?_
                          refine v_aload_n 2 dL_law_503 rfl rfl ?_
                          refine v_aload_n 0 dL_law_504 rfl rfl ?_
                          refine v_iload_n 3 dL_law_505 rfl rfl ?_
                          refine v_iconst dL_law_506 (by decide : _ = (1 : Int32)) ?_
                          refine v_iadd dL_law_507 ?_
                          obtain ⟨g54, hh⟩ := chk_some hh
                          replace g54 := inb_in g54
                          refine v_sld dL_law_508 g54 ?_
                          refine v_aload_n 0 dL_law_509 rfl rfl ?_
                          refine v_iload_n 3 dL_law_510 rfl rfl ?_
                          refine v_iconst dL_law_511 (by decide : _ = (2 : Int32)) ?_
                          refine v_iadd dL_law_512 ?_
                          obtain ⟨g55, hh⟩ := chk_some hh
                          replace g55 := inb_in g55
                          refine v_sld dL_law_513 g55 ?_
                          refine v_aload_n 0 dL_law_514 rfl rfl ?_
                          refine v_iload_n 3 dL_law_515 rfl rfl ?_
                          refine v_iconst dL_law_516 (by decide : _ = (3 : Int32)) ?_
                          refine v_iadd dL_law_517 ?_
                          obtain ⟨g56, hh⟩ := chk_some hh
                          replace g56 := inb_in g56
                          refine v_sld dL_law_518 g56 ?_
                          refine v_if_eq (tgt := 526) dL_law_519 (by decide) (fun c => ?_) (fun c => ?_)
                          · replace hh := (if_pos c).symm.trans hh
                            refine v_iconst dL_law_526 (by decide : _ = (0 : Int32)) ?_
                            obtain ⟨q57, eq57, hh⟩ := bnd_some hh
                            refine v_callVi (t_X10_stroke eq57) dL_law_527 y_X10_stroke ml_L_54 (ci := 9) rfl rfl (e_Model) rfl rfl (Nat.le_of_ble_eq_true rfl) ⟨(Nat.le_of_ble_eq_true rfl), (Nat.le_of_ble_eq_true rfl)⟩ ⟨by show _ ≤ 600000; omega, by show _ ≤ 7302249; omega⟩ ?_
                            refine v_icmp_eq (tgt := 1641) dL_law_530 (by decide) (fun c => ?_) (fun c => ?_)
                            · replace hh := (if_pos c).symm.trans hh
                              refine v_iinc (v := _ + (6 : Int32)) 3 dL_law_1641 rfl rfl (by decide) rfl ?_
                              replace hh := lt_of hh
                              refine v_goto (tgt := 18) dL_law_1644 (by decide) ?_
                              exact v_sub [1, 2, 3, 0] rfl (ih (cc0) (ss0) (by omega) (by omega) _ _ hh)
                            · replace hh := (if_neg c).symm.trans hh
                              refine v_iconst dL_law_533 (by decide : _ = (0 : Int32)) ?_
                              obtain rfl := Option.some.inj hh
                              exact v_zret dL_law_534 rfl (zb (by decide)).1 (by show _ ≤ 600000; omega) (by show _ ≤ 7302249; omega) ⟨rfl, rfl⟩
                          · replace hh := (if_neg c).symm.trans hh
                            refine v_iconst dL_law_522 (by decide : _ = (1 : Int32)) ?_
                            refine v_goto (tgt := 527) dL_law_523 (by decide) ?_
                            obtain ⟨q59, eq59, hh⟩ := bnd_some hh
                            refine v_callVi (t_X10_stroke eq59) dL_law_527 y_X10_stroke ml_L_54 (ci := 9) rfl rfl (e_Model) rfl rfl (Nat.le_of_ble_eq_true rfl) ⟨(Nat.le_of_ble_eq_true rfl), (Nat.le_of_ble_eq_true rfl)⟩ ⟨by show _ ≤ 600000; omega, by show _ ≤ 7302249; omega⟩ ?_
                            refine v_icmp_eq (tgt := 1641) dL_law_530 (by decide) (fun c => ?_) (fun c => ?_)
                            · replace hh := (if_pos c).symm.trans hh
                              refine v_iinc (v := _ + (6 : Int32)) 3 dL_law_1641 rfl rfl (by decide) rfl ?_
                              replace hh := lt_of hh
                              refine v_goto (tgt := 18) dL_law_1644 (by decide) ?_
                              exact v_sub [1, 2, 3, 0] rfl (ih (cc0) (ss0) (by omega) (by omega) _ _ hh)
                            · replace hh := (if_neg c).symm.trans hh
                              refine v_iconst dL_law_533 (by decide : _ = (0 : Int32)) ?_
                              obtain rfl := Option.some.inj hh
                              exact v_zret dL_law_534 rfl (zb (by decide)).1 (by show _ ≤ 600000; omega) (by show _ ≤ 7302249; omega) ⟨rfl, rfl⟩
                        · replace hh := (if_neg c).symm.trans hh
                          refine v_iconst dL_law_495 (by decide : _ = (1 : Int32)) ?_
                          refine v_goto (tgt := 500) dL_law_496 (by decide) ?_
                          obtain ⟨q61, eq61, hh⟩ := bnd_some hh
                          refine v_callVi (t_X9_stroke eq61) dL_law_500 y_X9_stroke ml_L_50 (ci := 8) rfl rfl (e_RolledOut) rfl rfl (Nat.le_of_ble_eq_true rfl) ⟨(Nat.le_of_ble_eq_true rfl), (Nat.le_of_ble_eq_true rfl)⟩ ⟨by show _ ≤ 600000; omega, by show _ ≤ 7302249; omega⟩ ?_
                          refine v_aload_n 2 dL_law_503 rfl rfl ?_
                          refine v_aload_n 0 dL_law_504 rfl rfl ?_
                          refine v_iload_n 3 dL_law_505 rfl rfl ?_
                          refine v_iconst dL_law_506 (by decide : _ = (1 : Int32)) ?_
                          refine v_iadd dL_law_507 ?_
                          obtain ⟨g62, hh⟩ := chk_some hh
                          replace g62 := inb_in g62
                          refine v_sld dL_law_508 g62 ?_
                          refine v_aload_n 0 dL_law_509 rfl rfl ?_
                          refine v_iload_n 3 dL_law_510 rfl rfl ?_
                          refine v_iconst dL_law_511 (by decide : _ = (2 : Int32)) ?_
                          refine v_iadd dL_law_512 ?_
                          obtain ⟨g63, hh⟩ := chk_some hh
                          replace g63 := inb_in g63
                          refine v_sld dL_law_513 g63 ?_
                          refine v_aload_n 0 dL_law_514 rfl rfl ?_
                          refine v_iload_n 3 dL_law_515 rfl rfl ?_
                          refine v_iconst dL_law_516 (by decide : _ = (3 : Int32)) ?_
                          refine v_iadd dL_law_517 ?_
                          obtain ⟨g64, hh⟩ := chk_some hh
                          replace g64 := inb_in g64
                          refine v_sld dL_law_518 g64 ?_
                          refine v_if_eq (tgt := 526) dL_law_519 (by decide) (fun c => ?_) (fun c => ?_)
                          · replace hh := (if_pos c).symm.trans hh
                            refine v_iconst dL_law_526 (by decide : _ = (0 : Int32)) ?_
                            obtain ⟨q65, eq65, hh⟩ := bnd_some hh
                            refine v_callVi (t_X10_stroke eq65) dL_law_527 y_X10_stroke ml_L_54 (ci := 9) rfl rfl (e_Model) rfl rfl (Nat.le_of_ble_eq_true rfl) ⟨(Nat.le_of_ble_eq_true rfl), (Nat.le_of_ble_eq_true rfl)⟩ ⟨by show _ ≤ 600000; omega, by show _ ≤ 7302249; omega⟩ ?_
                            refine v_icmp_eq (tgt := 1641) dL_law_530 (by decide) (fun c => ?_) (fun c => ?_)
                            · replace hh := (if_pos c).symm.trans hh
                              refine v_iinc (v := _ + (6 : Int32)) 3 dL_law_1641 rfl rfl (by decide) rfl ?_
                              replace hh := lt_of hh
                              refine v_goto (tgt := 18) dL_law_1644 (by decide) ?_
                              exact v_sub [1, 2, 3, 0] rfl (ih (cc0) (ss0) (by omega) (by omega) _ _ hh)
                            · replace hh := (if_neg c).symm.trans hh
                              refine v_iconst dL_law_533 (by decide : _ = (0 : Int32)) ?_
                              obtain rfl := Option.some.inj hh
                              exact v_zret dL_law_534 rfl (zb (by decide)).1 (by show _ ≤ 600000; omega) (by show _ ≤ 7302249; omega) ⟨rfl, rfl⟩
                          · replace hh := (if_neg c).symm.trans hh
                            refine v_iconst dL_law_522 (by decide : _ = (1 : Int32)) ?_
                            refine v_goto (tgt := 527) dL_law_523 (by decide) ?_
                            obtain ⟨q67, eq67, hh⟩ := bnd_some hh
                            refine v_callVi (t_X10_stroke eq67) dL_law_527 y_X10_stroke ml_L_54 (ci := 9) rfl rfl (e_Model) rfl rfl (Nat.le_of_ble_eq_true rfl) ⟨(Nat.le_of_ble_eq_true rfl), (Nat.le_of_ble_eq_true rfl)⟩ ⟨by show _ ≤ 600000; omega, by show _ ≤ 7302249; omega⟩ ?_
                            refine v_icmp_eq (tgt := 1641) dL_law_530 (by decide) (fun c => ?_) (fun c => ?_)
                            · replace hh := (if_pos c).symm.trans hh
                              refine v_iinc (v := _ + (6 : Int32)) 3 dL_law_1641 rfl rfl (by decide) rfl ?_
                              replace hh := lt_of hh
                              refine v_goto (tgt := 18) dL_law_1644 (by decide) ?_
                              exact v_sub [1, 2, 3, 0] rfl (ih (cc0) (ss0) (by omega) (by omega) _ _ hh)
                            · replace hh := (if_neg c).symm.trans hh
                              refine v_iconst dL_law_533 (by decide : _ = (0 : Int32)) ?_
                              obtain rfl := Option.some.inj hh
                              exact v_zret dL_law_534 rfl (zb (by decide)).1 (by show _ ≤ 600000; omega) (by show _ ≤ 7302249; omega) ⟨rfl, rfl⟩
                      · skip
                        refine sw_if hh (fun c9 hh => ?_) (fun c9 hh => ?_)
                        · skip
                          refine v_tableIn (tgt := 535) dL_law_33 (by rw [c9]; decide) (by rw [c9]; decide) (by rw [c9] <;> rfl) (by decide) ?_
                          refine v_aload_n 1 dL_law_535 rfl rfl ?_
                          obtain ⟨q69, eq69, hh⟩ := bnd_some hh
                          refine v_callVi (t_X9_trim eq69) dL_law_536 y_X9_trim ml_L_55 (ci := 8) rfl rfl (e_RolledOut) rfl rfl (Nat.le_of_ble_eq_true rfl) ⟨(Nat.le_of_ble_eq_true rfl), (Nat.le_of_ble_eq_true rfl)⟩ ⟨by show _ ≤ 600000; omega, by show _ ≤ 7302249; omega⟩ ?_
                          refine v_aload_n 2 dL_law_539 rfl rfl ?_
                          obtain ⟨q70, eq70, hh⟩ := bnd_some hh
                          refine v_callVi (t_X10_trim eq70) dL_law_540 y_X10_trim ml_L_58 (ci := 9) rfl rfl (e_Model) rfl rfl (Nat.le_of_ble_eq_true rfl) ⟨(Nat.le_of_ble_eq_true rfl), (Nat.le_of_ble_eq_true rfl)⟩ ⟨by show _ ≤ 600000; omega, by show _ ≤ 7302249; omega⟩ ?_
                          refine v_icmp_eq (tgt := 1641) dL_law_543 (by decide) (fun c => ?_) (fun c => ?_)
                          · replace hh := (if_pos c).symm.trans hh
                            refine v_iinc (v := _ + (6 : Int32)) 3 dL_law_1641 rfl rfl (by decide) rfl ?_
                            replace hh := lt_of hh
                            refine v_goto (tgt := 18) dL_law_1644 (by decide) ?_
                            exact v_sub [1, 2, 3, 0] rfl (ih (cc0) (ss0) (by omega) (by omega) _ _ hh)
                          · replace hh := (if_neg c).symm.trans hh
                            refine v_iconst dL_law_546 (by decide : _ = (0 : Int32)) ?_
                            obtain rfl := Option.some.inj hh
                            exact v_zret dL_law_547 rfl (zb (by decide)).1 (by show _ ≤ 600000; omega) (by show _ ≤ 7302249; omega) ⟨rfl, rfl⟩
                        · skip
                          refine sw_if hh (fun c10 hh => ?_) (fun c10 hh => ?_)
                          · skip
                            refine v_tableIn (tgt := 548) dL_law_33 (by rw [c10]; decide) (by rw [c10]; decide) (by rw [c10] <;> rfl) (by decide) ?_
                            refine v_aload_n 1 dL_law_548 rfl rfl ?_
                            refine v_aload_n 0 dL_law_549 rfl rfl ?_
                            refine v_iload_n 3 dL_law_550 rfl rfl ?_
                            refine v_iconst dL_law_551 (by decide : _ = (1 : Int32)) ?_
                            refine v_iadd dL_law_552 ?_
                            obtain ⟨g72, hh⟩ := chk_some hh
                            replace g72 := inb_in g72
                            refine v_sld dL_law_553 g72 ?_
                            refine v_aload_n 0 dL_law_554 rfl rfl ?_
                            refine v_iload_n 3 dL_law_555 rfl rfl ?_
                            refine v_iconst dL_law_556 (by decide : _ = (2 : Int32)) ?_
                            refine v_iadd dL_law_557 ?_
                            obtain ⟨g73, hh⟩ := chk_some hh
                            replace g73 := inb_in g73
                            refine v_sld dL_law_558 g73 ?_
                            obtain ⟨q74, eq74, hh⟩ := bnd_some hh
                            refine v_callVi (t_X9_patch eq74) dL_law_559 y_X9_patch ml_L_59 (ci := 8) rfl rfl (e_RolledOut) rfl rfl (Nat.le_of_ble_eq_true rfl) ⟨(Nat.le_of_ble_eq_true rfl), (Nat.le_of_ble_eq_true rfl)⟩ ⟨by show _ ≤ 600000; omega, by show _ ≤ 7302249; omega⟩ ?_
                            refine v_aload_n 2 dL_law_562 rfl rfl ?_
                            refine v_aload_n 0 dL_law_563 rfl rfl ?_
                            refine v_iload_n 3 dL_law_564 rfl rfl ?_
                            refine v_iconst dL_law_565 (by decide : _ = (1 : Int32)) ?_
                            refine v_iadd dL_law_566 ?_
                            obtain ⟨g75, hh⟩ := chk_some hh
                            replace g75 := inb_in g75
                            refine v_sld dL_law_567 g75 ?_
                            refine v_aload_n 0 dL_law_568 rfl rfl ?_
                            refine v_iload_n 3 dL_law_569 rfl rfl ?_
                            refine v_iconst dL_law_570 (by decide : _ = (2 : Int32)) ?_
                            refine v_iadd dL_law_571 ?_
                            obtain ⟨g76, hh⟩ := chk_some hh
                            replace g76 := inb_in g76
                            refine v_sld dL_law_572 g76 ?_
                            obtain ⟨q77, eq77, hh⟩ := bnd_some hh
                            refine v_callVi (t_X10_patch eq77) dL_law_573 y_X10_patch ml_L_62 (ci := 9) rfl rfl (e_Model) rfl rfl (Nat.le_of_ble_eq_true rfl) ⟨(Nat.le_of_ble_eq_true rfl), (Nat.le_of_ble_eq_true rfl)⟩ ⟨by show _ ≤ 600000; omega, by show _ ≤ 7302249; omega⟩ ?_
                            refine v_icmp_eq (tgt := 1641) dL_law_576 (by decide) (fun c => ?_) (fun c => ?_)
                            · replace hh := (if_pos c).symm.trans hh
                              refine v_iinc (v := _ + (6 : Int32)) 3 dL_law_1641 rfl rfl (by decide) rfl ?_
                              replace hh := lt_of hh
                              refine v_goto (tgt := 18) dL_law_1644 (by decide) ?_
                              exact v_sub [1, 2, 3, 0] rfl (ih (cc0) (ss0) (by omega) (by omega) _ _ hh)
                            · replace hh := (if_neg c).symm.trans hh
                              refine v_iconst dL_law_579 (by decide : _ = (0 : Int32)) ?_
                              obtain rfl := Option.some.inj hh
                              exact v_zret dL_law_580 rfl (zb (by decide)).1 (by show _ ≤ 600000; omega) (by show _ ≤ 7302249; omega) ⟨rfl, rfl⟩
                          · skip
                            refine sw_if hh (fun c11 hh => ?_) (fun c11 hh => ?_)
                            · skip
                              refine v_tableIn (tgt := 581) dL_law_33 (by rw [c11]; decide) (by rw [c11]; decide) (by rw [c11] <;> rfl) (by decide) ?_
                              refine v_aload_n 1 dL_law_581 rfl rfl ?_
                              refine v_aload_n 0 dL_law_582 rfl rfl ?_
                              refine v_iload_n 3 dL_law_583 rfl rfl ?_
                              refine v_iconst dL_law_584 (by decide : _ = (1 : Int32)) ?_
                              refine v_iadd dL_law_585 ?_
                              obtain ⟨g79, hh⟩ := chk_some hh
                              replace g79 := inb_in g79
                              refine v_sld dL_law_586 g79 ?_
                              obtain ⟨q80, eq80, hh⟩ := bnd_some hh
                              refine v_callVi (t_X9_roll eq80) dL_law_587 y_X9_roll ml_L_63 (ci := 8) rfl rfl (e_RolledOut) rfl rfl (Nat.le_of_ble_eq_true rfl) ⟨(Nat.le_of_ble_eq_true rfl), (Nat.le_of_ble_eq_true rfl)⟩ ⟨by show _ ≤ 600000; omega, by show _ ≤ 7302249; omega⟩ ?_
                              refine v_aload_n 2 dL_law_590 rfl rfl ?_
                              refine v_aload_n 0 dL_law_591 rfl rfl ?_
                              refine v_iload_n 3 dL_law_592 rfl rfl ?_
                              refine v_iconst dL_law_593 (by decide : _ = (1 : Int32)) ?_
                              refine v_iadd dL_law_594 ?_
                              obtain ⟨g81, hh⟩ := chk_some hh
                              replace g81 := inb_in g81
                              refine v_sld dL_law_595 g81 ?_
                              obtain ⟨q82, eq82, hh⟩ := bnd_some hh
                              refine v_callVi (t_X10_roll eq82) dL_law_596 y_X10_roll ml_L_66 (ci := 9) rfl rfl (e_Model) rfl rfl (Nat.le_of_ble_eq_true rfl) ⟨(Nat.le_of_ble_eq_true rfl), (Nat.le_of_ble_eq_true rfl)⟩ ⟨by show _ ≤ 600000; omega, by show _ ≤ 7302249; omega⟩ ?_
                              refine v_icmp_eq (tgt := 1641) dL_law_599 (by decide) (fun c => ?_) (fun c => ?_)
                              · replace hh := (if_pos c).symm.trans hh
                                refine v_iinc (v := _ + (6 : Int32)) 3 dL_law_1641 rfl rfl (by decide) rfl ?_
                                replace hh := lt_of hh
                                refine v_goto (tgt := 18) dL_law_1644 (by decide) ?_
                                exact v_sub [1, 2, 3, 0] rfl (ih (cc0) (ss0) (by omega) (by omega) _ _ hh)
                              · replace hh := (if_neg c).symm.trans hh
                                refine v_iconst dL_law_602 (by decide : _ = (0 : Int32)) ?_
                                obtain rfl := Option.some.inj hh
                                exact v_zret dL_law_603 rfl (zb (by decide)).1 (by show _ ≤ 600000; omega) (by show _ ≤ 7302249; omega) ⟨rfl, rfl⟩
                            · skip
                              refine sw_if hh (fun c12 hh => ?_) (fun c12 hh => ?_)
                              · skip
                                refine v_tableIn (tgt := 604) dL_law_33 (by rw [c12]; decide) (by rw [c12]; decide) (by rw [c12] <;> rfl) (by decide) ?_
                                refine v_aload_n 1 dL_law_604 rfl rfl ?_
                                refine v_aload_n 0 dL_law_605 rfl rfl ?_
                                refine v_iload_n 3 dL_law_606 rfl rfl ?_
                                refine v_iconst dL_law_607 (by decide : _ = (1 : Int32)) ?_
                                refine v_iadd dL_law_608 ?_
                                obtain ⟨g84, hh⟩ := chk_some hh
                                replace g84 := inb_in g84
                                refine v_sld dL_law_609 g84 ?_
                                obtain ⟨q85, eq85, hh⟩ := bnd_some hh
                                refine v_callVi (t_X9_played eq85) dL_law_610 y_X9_played ml_L_67 (ci := 8) rfl rfl (e_RolledOut) rfl rfl (Nat.le_of_ble_eq_true rfl) ⟨(Nat.le_of_ble_eq_true rfl), (Nat.le_of_ble_eq_true rfl)⟩ ⟨by show _ ≤ 600000; omega, by show _ ≤ 7302249; omega⟩ ?_
                                refine v_aload_n 2 dL_law_613 rfl rfl ?_
                                refine v_aload_n 0 dL_law_614 rfl rfl ?_
                                refine v_iload_n 3 dL_law_615 rfl rfl ?_
                                refine v_iconst dL_law_616 (by decide : _ = (1 : Int32)) ?_
                                refine v_iadd dL_law_617 ?_
                                obtain ⟨g86, hh⟩ := chk_some hh
                                replace g86 := inb_in g86
                                refine v_sld dL_law_618 g86 ?_
                                obtain ⟨q87, eq87, hh⟩ := bnd_some hh
                                refine v_callVi (t_X10_played eq87) dL_law_619 y_X10_played ml_L_70 (ci := 9) rfl rfl (e_Model) rfl rfl (Nat.le_of_ble_eq_true rfl) ⟨(Nat.le_of_ble_eq_true rfl), (Nat.le_of_ble_eq_true rfl)⟩ ⟨by show _ ≤ 600000; omega, by show _ ≤ 7302249; omega⟩ ?_
                                refine v_icmp_eq (tgt := 1641) dL_law_622 (by decide) (fun c => ?_) (fun c => ?_)
                                · replace hh := (if_pos c).symm.trans hh
                                  refine v_iinc (v := _ + (6 : Int32)) 3 dL_law_1641 rfl rfl (by decide) rfl ?_
                                  replace hh := lt_of hh
                                  refine v_goto (tgt := 18) dL_law_1644 (by decide) ?_
                                  exact v_sub [1, 2, 3, 0] rfl (ih (cc0) (ss0) (by omega) (by omega) _ _ hh)
                                · replace hh := (if_neg c).symm.trans hh
                                  refine v_iconst dL_law_625 (by decide : _ = (0 : Int32)) ?_
                                  obtain rfl := Option.some.inj hh
                                  exact v_zret dL_law_626 rfl (zb (by decide)).1 (by show _ ≤ 600000; omega) (by show _ ≤ 7302249; omega) ⟨rfl, rfl⟩
                              · skip
                                refine sw_if hh (fun c13 hh => ?_) (fun c13 hh => ?_)
                                · skip
                                  refine v_tableIn (tgt := 627) dL_law_33 (by rw [c13]; decide) (by rw [c13]; decide) (by rw [c13] <;> rfl) (by decide) ?_
                                  refine v_aload_n 1 dL_law_627 rfl rfl ?_
                                  refine v_aload_n 0 dL_law_628 rfl rfl ?_
                                  refine v_iload_n 3 dL_law_629 rfl rfl ?_
                                  refine v_iconst dL_law_630 (by decide : _ = (1 : Int32)) ?_
                                  refine v_iadd dL_law_631 ?_
                                  obtain ⟨g89, hh⟩ := chk_some hh
                                  replace g89 := inb_in g89
                                  refine v_sld dL_law_632 g89 ?_
                                  refine v_aload_n 0 dL_law_633 rfl rfl ?_
                                  refine v_iload_n 3 dL_law_634 rfl rfl ?_
                                  refine v_iconst dL_law_635 (by decide : _ = (2 : Int32)) ?_
                                  refine v_iadd dL_law_636 ?_
                                  obtain ⟨g90, hh⟩ := chk_some hh
                                  replace g90 := inb_in g90
                                  refine v_sld dL_law_637 g90 ?_
                                  obtain ⟨q91, eq91, hh⟩ := bnd_some hh
                                  refine v_callVi (t_X9_years eq91) dL_law_638 y_X9_years ml_L_71 (ci := 8) rfl rfl (e_RolledOut) rfl rfl (Nat.le_of_ble_eq_true rfl) ⟨(Nat.le_of_ble_eq_true rfl), (Nat.le_of_ble_eq_true rfl)⟩ ⟨by show _ ≤ 600000; omega, by show _ ≤ 7302249; omega⟩ ?_
                                  refine v_aload_n 2 dL_law_641 rfl rfl ?_
                                  refine v_aload_n 0 dL_law_642 rfl rfl ?_
                                  refine v_iload_n 3 dL_law_643 rfl rfl ?_
                                  refine v_iconst dL_law_644 (by decide : _ = (1 : Int32)) ?_
                                  refine v_iadd dL_law_645 ?_
                                  obtain ⟨g92, hh⟩ := chk_some hh
                                  replace g92 := inb_in g92
                                  refine v_sld dL_law_646 g92 ?_
                                  refine v_aload_n 0 dL_law_647 rfl rfl ?_
                                  refine v_iload_n 3 dL_law_648 rfl rfl ?_
                                  refine v_iconst dL_law_649 (by decide : _ = (2 : Int32)) ?_
                                  refine v_iadd dL_law_650 ?_
                                  obtain ⟨g93, hh⟩ := chk_some hh
                                  replace g93 := inb_in g93
                                  refine v_sld dL_law_651 g93 ?_
                                  obtain ⟨q94, eq94, hh⟩ := bnd_some hh
                                  refine v_callVi (t_X10_years eq94) dL_law_652 y_X10_years ml_L_75 (ci := 9) rfl rfl (e_Model) rfl rfl (Nat.le_of_ble_eq_true rfl) ⟨(Nat.le_of_ble_eq_true rfl), (Nat.le_of_ble_eq_true rfl)⟩ ⟨by show _ ≤ 600000; omega, by show _ ≤ 7302249; omega⟩ ?_
                                  refine v_icmp_eq (tgt := 1641) dL_law_655 (by decide) (fun c => ?_) (fun c => ?_)
                                  · replace hh := (if_pos c).symm.trans hh
                                    refine v_iinc (v := _ + (6 : Int32)) 3 dL_law_1641 rfl rfl (by decide) rfl ?_
                                    replace hh := lt_of hh
                                    refine v_goto (tgt := 18) dL_law_1644 (by decide) ?_
                                    exact v_sub [1, 2, 3, 0] rfl (ih (cc0) (ss0) (by omega) (by omega) _ _ hh)
                                  · replace hh := (if_neg c).symm.trans hh
                                    refine v_iconst dL_law_658 (by decide : _ = (0 : Int32)) ?_
                                    obtain rfl := Option.some.inj hh
                                    exact v_zret dL_law_659 rfl (zb (by decide)).1 (by show _ ≤ 600000; omega) (by show _ ≤ 7302249; omega) ⟨rfl, rfl⟩
                                · skip
                                  refine sw_if hh (fun c14 hh => ?_) (fun c14 hh => ?_)
                                  · skip
                                    refine v_tableIn (tgt := 660) dL_law_33 (by rw [c14]; decide) (by rw [c14]; decide) (by rw [c14] <;> rfl) (by decide) ?_
                                    refine v_aload_n 1 dL_law_660 rfl rfl ?_
                                    obtain ⟨q96, eq96, hh⟩ := bnd_some hh
                                    refine v_callVi (t_X9_undo eq96) dL_law_661 y_X9_undo ml_L_76 (ci := 8) rfl rfl (e_RolledOut) rfl rfl (Nat.le_of_ble_eq_true rfl) ⟨(Nat.le_of_ble_eq_true rfl), (Nat.le_of_ble_eq_true rfl)⟩ ⟨by show _ ≤ 600000; omega, by show _ ≤ 7302249; omega⟩ ?_
                                    refine v_aload_n 2 dL_law_664 rfl rfl ?_
                                    obtain ⟨q97, eq97, hh⟩ := bnd_some hh
                                    refine v_callVi (t_X10_undo eq97) dL_law_665 y_X10_undo ml_L_79 (ci := 9) rfl rfl (e_Model) rfl rfl (Nat.le_of_ble_eq_true rfl) ⟨(Nat.le_of_ble_eq_true rfl), (Nat.le_of_ble_eq_true rfl)⟩ ⟨by show _ ≤ 600000; omega, by show _ ≤ 7302249; omega⟩ ?_
                                    refine v_icmp_eq (tgt := 1641) dL_law_668 (by decide) (fun c => ?_) (fun c => ?_)
                                    · replace hh := (if_pos c).symm.trans hh
                                      refine v_iinc (v := _ + (6 : Int32)) 3 dL_law_1641 rfl rfl (by decide) rfl ?_
                                      replace hh := lt_of hh
                                      refine v_goto (tgt := 18) dL_law_1644 (by decide) ?_
                                      exact v_sub [1, 2, 3, 0] rfl (ih (cc0) (ss0) (by omega) (by omega) _ _ hh)
                                    · replace hh := (if_neg c).symm.trans hh
                                      refine v_iconst dL_law_671 (by decide : _ = (0 : Int32)) ?_
                                      obtain rfl := Option.some.inj hh
                                      exact v_zret dL_law_672 rfl (zb (by decide)).1 (by show _ ≤ 600000; omega) (by show _ ≤ 7302249; omega) ⟨rfl, rfl⟩
                                  · skip
                                    refine sw_if hh (fun c15 hh => ?_) (fun c15 hh => ?_)
                                    · skip
                                      refine v_tableIn (tgt := 673) dL_law_33 (by rw [c15]; decide) (by rw [c15]; decide) (by rw [c15] <;> rfl) (by decide) ?_
                                      refine v_aload_n 1 dL_law_673 rfl rfl ?_
                                      refine v_aload_n 0 dL_law_674 rfl rfl ?_
                                      refine v_iload_n 3 dL_law_675 rfl rfl ?_
                                      refine v_iconst dL_law_676 (by decide : _ = (1 : Int32)) ?_
                                      refine v_iadd dL_law_677 ?_
                                      obtain ⟨g99, hh⟩ := chk_some hh
                                      replace g99 := inb_in g99
                                      refine v_sld dL_law_678 g99 ?_
                                      refine v_aload_n 0 dL_law_679 rfl rfl ?_
                                      refine v_iload_n 3 dL_law_680 rfl rfl ?_
                                      refine v_iconst dL_law_681 (by decide : _ = (2 : Int32)) ?_
                                      refine v_iadd dL_law_682 ?_
                                      obtain ⟨g100, hh⟩ := chk_some hh
                                      replace g100 := inb_in g100
                                      refine v_sld dL_law_683 g100 ?_
                                      obtain ⟨q101, eq101, hh⟩ := bnd_some hh
                                      refine v_callVi (t_X9_of eq101) dL_law_684 y_X9_of ml_L_80 (ci := 8) rfl rfl (e_RolledOut) rfl rfl (Nat.le_of_ble_eq_true rfl) ⟨(Nat.le_of_ble_eq_true rfl), (Nat.le_of_ble_eq_true rfl)⟩ ⟨by show _ ≤ 600000; omega, by show _ ≤ 7302249; omega⟩ ?_
                                      refine v_aload_n 2 dL_law_687 rfl rfl ?_
                                      refine v_aload_n 0 dL_law_688 rfl rfl ?_
                                      refine v_iload_n 3 dL_law_689 rfl rfl ?_
                                      refine v_iconst dL_law_690 (by decide : _ = (1 : Int32)) ?_
                                      refine v_iadd dL_law_691 ?_
                                      obtain ⟨g102, hh⟩ := chk_some hh
                                      replace g102 := inb_in g102
                                      refine v_sld dL_law_692 g102 ?_
                                      refine v_aload_n 0 dL_law_693 rfl rfl ?_
                                      refine v_iload_n 3 dL_law_694 rfl rfl ?_
                                      refine v_iconst dL_law_695 (by decide : _ = (2 : Int32)) ?_
                                      refine v_iadd dL_law_696 ?_
                                      obtain ⟨g103, hh⟩ := chk_some hh
                                      replace g103 := inb_in g103
                                      refine v_sld dL_law_697 g103 ?_
                                      obtain ⟨q104, eq104, hh⟩ := bnd_some hh
                                      refine v_callVi (t_X10_of eq104) dL_law_698 y_X10_of ml_L_83 (ci := 9) rfl rfl (e_Model) rfl rfl (Nat.le_of_ble_eq_true rfl) ⟨(Nat.le_of_ble_eq_true rfl), (Nat.le_of_ble_eq_true rfl)⟩ ⟨by show _ ≤ 600000; omega, by show _ ≤ 7302249; omega⟩ ?_
                                      refine v_icmp_eq (tgt := 1641) dL_law_701 (by decide) (fun c => ?_) (fun c => ?_)
                                      · replace hh := (if_pos c).symm.trans hh
                                        refine v_iinc (v := _ + (6 : Int32)) 3 dL_law_1641 rfl rfl (by decide) rfl ?_
                                        replace hh := lt_of hh
                                        refine v_goto (tgt := 18) dL_law_1644 (by decide) ?_
                                        exact v_sub [1, 2, 3, 0] rfl (ih (cc0) (ss0) (by omega) (by omega) _ _ hh)
                                      · replace hh := (if_neg c).symm.trans hh
                                        refine v_iconst dL_law_704 (by decide : _ = (0 : Int32)) ?_
                                        obtain rfl := Option.some.inj hh
                                        exact v_zret dL_law_705 rfl (zb (by decide)).1 (by show _ ≤ 600000; omega) (by show _ ≤ 7302249; omega) ⟨rfl, rfl⟩
                                    · skip
                                      refine sw_if hh (fun c16 hh => ?_) (fun c16 hh => ?_)
                                      · skip
                                        refine v_tableIn (tgt := 706) dL_law_33 (by rw [c16]; decide) (by rw [c16]; decide) (by rw [c16] <;> rfl) (by decide) ?_
                                        refine v_aload_n 1 dL_law_706 rfl rfl ?_
                                        refine v_aload_n 0 dL_law_707 rfl rfl ?_
                                        refine v_iload_n 3 dL_law_708 rfl rfl ?_
                                        refine v_iconst dL_law_709 (by decide : _ = (1 : Int32)) ?_
                                        refine v_iadd dL_law_710 ?_
                                        obtain ⟨g106, hh⟩ := chk_some hh
                                        replace g106 := inb_in g106
                                        refine v_sld dL_law_711 g106 ?_
                                        obtain ⟨q107, eq107, hh⟩ := bnd_some hh
                                        refine v_callVi (t_X9_ofTown eq107) dL_law_712 y_X9_ofTown ml_L_84 (ci := 8) rfl rfl (e_RolledOut) rfl rfl (Nat.le_of_ble_eq_true rfl) ⟨(Nat.le_of_ble_eq_true rfl), (Nat.le_of_ble_eq_true rfl)⟩ ⟨by show _ ≤ 600000; omega, by show _ ≤ 7302249; omega⟩ ?_
                                        refine v_aload_n 2 dL_law_715 rfl rfl ?_
                                        refine v_aload_n 0 dL_law_716 rfl rfl ?_
                                        refine v_iload_n 3 dL_law_717 rfl rfl ?_
                                        refine v_iconst dL_law_718 (by decide : _ = (1 : Int32)) ?_
                                        refine v_iadd dL_law_719 ?_
                                        obtain ⟨g108, hh⟩ := chk_some hh
                                        replace g108 := inb_in g108
                                        refine v_sld dL_law_720 g108 ?_
                                        obtain ⟨q109, eq109, hh⟩ := bnd_some hh
                                        refine v_callVi (t_X10_ofTown eq109) dL_law_721 y_X10_ofTown ml_L_87 (ci := 9) rfl rfl (e_Model) rfl rfl (Nat.le_of_ble_eq_true rfl) ⟨(Nat.le_of_ble_eq_true rfl), (Nat.le_of_ble_eq_true rfl)⟩ ⟨by show _ ≤ 600000; omega, by show _ ≤ 7302249; omega⟩ ?_
                                        refine v_icmp_eq (tgt := 1641) dL_law_724 (by decide) (fun c => ?_) (fun c => ?_)
                                        · replace hh := (if_pos c).symm.trans hh
                                          refine v_iinc (v := _ + (6 : Int32)) 3 dL_law_1641 rfl rfl (by decide) rfl ?_
                                          replace hh := lt_of hh
                                          refine v_goto (tgt := 18) dL_law_1644 (by decide) ?_
                                          exact v_sub [1, 2, 3, 0] rfl (ih (cc0) (ss0) (by omega) (by omega) _ _ hh)
                                        · replace hh := (if_neg c).symm.trans hh
                                          refine v_iconst dL_law_727 (by decide : _ = (0 : Int32)) ?_
                                          obtain rfl := Option.some.inj hh
                                          exact v_zret dL_law_728 rfl (zb (by decide)).1 (by show _ ≤ 600000; omega) (by show _ ≤ 7302249; omega) ⟨rfl, rfl⟩
                                      · skip
                                        refine sw_if hh (fun c17 hh => ?_) (fun c17 hh => ?_)
                                        · skip
                                          refine v_tableIn (tgt := 729) dL_law_33 (by rw [c17]; decide) (by rw [c17]; decide) (by rw [c17] <;> rfl) (by decide) ?_
                                          refine v_aload_n 1 dL_law_729 rfl rfl ?_
                                          refine v_aload_n 0 dL_law_730 rfl rfl ?_
                                          refine v_iload_n 3 dL_law_731 rfl rfl ?_
                                          refine v_iconst dL_law_732 (by decide : _ = (1 : Int32)) ?_
                                          refine v_iadd dL_law_733 ?_
                                          obtain ⟨g111, hh⟩ := chk_some hh
                                          replace g111 := inb_in g111
                                          refine v_sld dL_law_734 g111 ?_
                                          obtain ⟨q112, eq112, hh⟩ := bnd_some hh
                                          refine v_callVi (t_X9_ofHand eq112) dL_law_735 y_X9_ofHand ml_L_88 (ci := 8) rfl rfl (e_RolledOut) rfl rfl (Nat.le_of_ble_eq_true rfl) ⟨(Nat.le_of_ble_eq_true rfl), (Nat.le_of_ble_eq_true rfl)⟩ ⟨by show _ ≤ 600000; omega, by show _ ≤ 7302249; omega⟩ ?_
                                          refine v_aload_n 2 dL_law_738 rfl rfl ?_
                                          refine v_aload_n 0 dL_law_739 rfl rfl ?_
                                          refine v_iload_n 3 dL_law_740 rfl rfl ?_
                                          refine v_iconst dL_law_741 (by decide : _ = (1 : Int32)) ?_
                                          refine v_iadd dL_law_742 ?_
                                          obtain ⟨g113, hh⟩ := chk_some hh
                                          replace g113 := inb_in g113
                                          refine v_sld dL_law_743 g113 ?_
                                          obtain ⟨q114, eq114, hh⟩ := bnd_some hh
                                          refine v_callVi (t_X10_ofHand eq114) dL_law_744 y_X10_ofHand ml_L_91 (ci := 9) rfl rfl (e_Model) rfl rfl (Nat.le_of_ble_eq_true rfl) ⟨(Nat.le_of_ble_eq_true rfl), (Nat.le_of_ble_eq_true rfl)⟩ ⟨by show _ ≤ 600000; omega, by show _ ≤ 7302249; omega⟩ ?_
                                          refine v_icmp_eq (tgt := 1641) dL_law_747 (by decide) (fun c => ?_) (fun c => ?_)
                                          · replace hh := (if_pos c).symm.trans hh
                                            refine v_iinc (v := _ + (6 : Int32)) 3 dL_law_1641 rfl rfl (by decide) rfl ?_
                                            replace hh := lt_of hh
                                            refine v_goto (tgt := 18) dL_law_1644 (by decide) ?_
                                            exact v_sub [1, 2, 3, 0] rfl (ih (cc0) (ss0) (by omega) (by omega) _ _ hh)
                                          · replace hh := (if_neg c).symm.trans hh
                                            refine v_iconst dL_law_750 (by decide : _ = (0 : Int32)) ?_
                                            obtain rfl := Option.some.inj hh
                                            exact v_zret dL_law_751 rfl (zb (by decide)).1 (by show _ ≤ 600000; omega) (by show _ ≤ 7302249; omega) ⟨rfl, rfl⟩
                                        · skip
                                          refine sw_if hh (fun c18 hh => ?_) (fun c18 hh => ?_)
                                          · skip
                                            refine v_tableIn (tgt := 752) dL_law_33 (by rw [c18]; decide) (by rw [c18]; decide) (by rw [c18] <;> rfl) (by decide) ?_
                                            refine v_aload_n 1 dL_law_752 rfl rfl ?_
                                            refine v_aload_n 0 dL_law_753 rfl rfl ?_
                                            refine v_iload_n 3 dL_law_754 rfl rfl ?_
                                            refine v_iconst dL_law_755 (by decide : _ = (1 : Int32)) ?_
                                            refine v_iadd dL_law_756 ?_
                                            obtain ⟨g116, hh⟩ := chk_some hh
                                            replace g116 := inb_in g116
                                            refine v_sld dL_law_757 g116 ?_
                                            refine v_aload_n 0 dL_law_758 rfl rfl ?_
                                            refine v_iload_n 3 dL_law_759 rfl rfl ?_
                                            refine v_iconst dL_law_760 (by decide : _ = (2 : Int32)) ?_
                                            refine v_iadd dL_law_761 ?_
                                            obtain ⟨g117, hh⟩ := chk_some hh
                                            replace g117 := inb_in g117
                                            refine v_sld dL_law_762 g117 ?_
                                            refine v_aload_n 0 dL_law_763 rfl rfl ?_
                                            refine v_iload_n 3 dL_law_764 rfl rfl ?_
                                            refine v_iconst dL_law_765 (by decide : _ = (3 : Int32)) ?_
                                            refine v_iadd dL_law_766 ?_
                                            obtain ⟨g118, hh⟩ := chk_some hh
                                            replace g118 := inb_in g118
                                            refine v_sld dL_law_767 g118 ?_
                                            refine v_if_eq (tgt := 775) dL_law_768 (by decide) (fun c => ?_) (fun c => ?_)
                                            · replace hh := (if_pos c).symm.trans hh
                                              refine v_iconst dL_law_775 (by decide : _ = (0 : Int32)) ?_
                                              obtain ⟨q119, eq119, hh⟩ := bnd_some hh
                                              refine v_callVi (t_X9_moves eq119) dL_law_776 y_X9_moves ml_L_92 (ci := 8) rfl rfl (e_RolledOut) rfl rfl (Nat.le_of_ble_eq_true rfl) ⟨(Nat.le_of_ble_eq_true rfl), (Nat.le_of_ble_eq_true rfl)⟩ ⟨by show _ ≤ 600000; omega, by show _ ≤ 7302249; omega⟩ ?_
                                              refine v_aload_n 2 dL_law_779 rfl rfl ?_
                                              refine v_aload_n 0 dL_law_780 rfl rfl ?_
                                              refine v_iload_n 3 dL_law_781 rfl rfl ?_
                                              refine v_iconst dL_law_782 (by decide : _ = (1 : Int32)) ?_
                                              refine v_iadd dL_law_783 ?_
                                              obtain ⟨g120, hh⟩ := chk_some hh
                                              replace g120 := inb_in g120
                                              refine v_sld dL_law_784 g120 ?_
                                              refine v_aload_n 0 dL_law_785 rfl rfl ?_
                                              refine v_iload_n 3 dL_law_786 rfl rfl ?_
                                              refine v_iconst dL_law_787 (by decide : _ = (2 : Int32)) ?_
                                              refine v_iadd dL_law_788 ?_
                                              obtain ⟨g121, hh⟩ := chk_some hh
                                              replace g121 := inb_in g121
                                              refine v_sld dL_law_789 g121 ?_
                                              refine v_aload_n 0 dL_law_790 rfl rfl ?_
                                              refine v_iload_n 3 dL_law_791 rfl rfl ?_
                                              refine v_iconst dL_law_792 (by decide : _ = (3 : Int32)) ?_
                                              refine v_iadd dL_law_793 ?_
                                              obtain ⟨g122, hh⟩ := chk_some hh
                                              replace g122 := inb_in g122
                                              refine v_sld dL_law_794 g122 ?_
                                              refine v_if_eq (tgt := 802) dL_law_795 (by decide) (fun c => ?_) (fun c => ?_)
                                              · replace hh := (if_pos c).symm.trans hh
                                                refine v_iconst dL_law_802 (by decide : _ = (0 : Int32)) ?_
                                                obtain ⟨q123, eq123, hh⟩ := bnd_some hh
                                                refine v_callVi (t_X10_moves eq123) dL_law_803 y_X10_moves ml_L_95 (ci := 9) rfl rfl (e_Model) rfl rfl (Nat.le_of_ble_eq_true rfl) ⟨(Nat.le_of_ble_eq_true rfl), (Nat.le_of_ble_eq_true rfl)⟩ ⟨by show _ ≤ 600000; omega, by show _ ≤ 7302249; omega⟩ ?_
                                                refine v_icmp_eq (tgt := 1641) dL_law_806 (by decide) (fun c => ?_) (fun c => ?_)
                                                · replace hh := (if_pos c).symm.trans hh
                                                  refine v_iinc (v := _ + (6 : Int32)) 3 dL_law_1641 rfl rfl (by decide) rfl ?_
                                                  replace hh := lt_of hh
                                                  refine v_goto (tgt := 18) dL_law_1644 (by decide) ?_
                                                  exact v_sub [1, 2, 3, 0] rfl (ih (cc0) (ss0) (by omega) (by omega) _ _ hh)
                                                · replace hh := (if_neg c).symm.trans hh
                                                  refine v_iconst dL_law_809 (by decide : _ = (0 : Int32)) ?_
                                                  obtain rfl := Option.some.inj hh
                                                  exact v_zret dL_law_810 rfl (zb (by decide)).1 (by show _ ≤ 600000; omega) (by show _ ≤ 7302249; omega) ⟨rfl, rfl⟩
                                              · replace hh := (if_neg c).symm.trans hh
                                                refine v_iconst dL_law_798 (by decide : _ = (1 : Int32)) ?_
                                                refine v_goto (tgt := 803) dL_law_799 (by decide) ?_
                                                obtain ⟨q125, eq125, hh⟩ := bnd_some hh
                                                refine v_callVi (t_X10_moves eq125) dL_law_803 y_X10_moves ml_L_95 (ci := 9) rfl rfl (e_Model) rfl rfl (Nat.le_of_ble_eq_true rfl) ⟨(Nat.le_of_ble_eq_true rfl), (Nat.le_of_ble_eq_true rfl)⟩ ⟨by show _ ≤ 600000; omega, by show _ ≤ 7302249; omega⟩ ?_
                                                refine v_icmp_eq (tgt := 1641) dL_law_806 (by decide) (fun c => ?_) (fun c => ?_)
                                                · replace hh := (if_pos c).symm.trans hh
                                                  refine v_iinc (v := _ + (6 : Int32)) 3 dL_law_1641 rfl rfl (by decide) rfl ?_
                                                  replace hh := lt_of hh
                                                  refine v_goto (tgt := 18) dL_law_1644 (by decide) ?_
                                                  exact v_sub [1, 2, 3, 0] rfl (ih (cc0) (ss0) (by omega) (by omega) _ _ hh)
                                                · replace hh := (if_neg c).symm.trans hh
                                                  refine v_iconst dL_law_809 (by decide : _ = (0 : Int32)) ?_
                                                  obtain rfl := Option.some.inj hh
                                                  exact v_zret dL_law_810 rfl (zb (by decide)).1 (by show _ ≤ 600000; omega) (by show _ ≤ 7302249; omega) ⟨rfl, rfl⟩
                                            · replace hh := (if_neg c).symm.trans hh
                                              refine v_iconst dL_law_771 (by decide : _ = (1 : Int32)) ?_
                                              refine v_goto (tgt := 776) dL_law_772 (by decide) ?_
                                              obtain ⟨q127, eq127, hh⟩ := bnd_some hh
                                              refine v_callVi (t_X9_moves eq127) dL_law_776 y_X9_moves ml_L_92 (ci := 8) rfl rfl (e_RolledOut) rfl rfl (Nat.le_of_ble_eq_true rfl) ⟨(Nat.le_of_ble_eq_true rfl), (Nat.le_of_ble_eq_true rfl)⟩ ⟨by show _ ≤ 600000; omega, by show _ ≤ 7302249; omega⟩ ?_
                                              refine v_aload_n 2 dL_law_779 rfl rfl ?_
                                              refine v_aload_n 0 dL_law_780 rfl rfl ?_
                                              refine v_iload_n 3 dL_law_781 rfl rfl ?_
                                              refine v_iconst dL_law_782 (by decide : _ = (1 : Int32)) ?_
                                              refine v_iadd dL_law_783 ?_
                                              obtain ⟨g128, hh⟩ := chk_some hh
                                              replace g128 := inb_in g128
                                              refine v_sld dL_law_784 g128 ?_
                                              refine v_aload_n 0 dL_law_785 rfl rfl ?_
                                              refine v_iload_n 3 dL_law_786 rfl rfl ?_
                                              refine v_iconst dL_law_787 (by decide : _ = (2 : Int32)) ?_
                                              refine v_iadd dL_law_788 ?_
                                              obtain ⟨g129, hh⟩ := chk_some hh
                                              replace g129 := inb_in g129
                                              refine v_sld dL_law_789 g129 ?_
                                              refine v_aload_n 0 dL_law_790 rfl rfl ?_
                                              refine v_iload_n 3 dL_law_791 rfl rfl ?_
                                              refine v_iconst dL_law_792 (by decide : _ = (3 : Int32)) ?_
                                              refine v_iadd dL_law_793 ?_
                                              obtain ⟨g130, hh⟩ := chk_some hh
                                              replace g130 := inb_in g130
                                              refine v_sld dL_law_794 g130 ?_
                                              refine v_if_eq (tgt := 802) dL_law_795 (by decide) (fun c => ?_) (fun c => ?_)
                                              · replace hh := (if_pos c).symm.trans hh
                                                refine v_iconst dL_law_802 (by decide : _ = (0 : Int32)) ?_
                                                obtain ⟨q131, eq131, hh⟩ := bnd_some hh
                                                refine v_callVi (t_X10_moves eq131) dL_law_803 y_X10_moves ml_L_95 (ci := 9) rfl rfl (e_Model) rfl rfl (Nat.le_of_ble_eq_true rfl) ⟨(Nat.le_of_ble_eq_true rfl), (Nat.le_of_ble_eq_true rfl)⟩ ⟨by show _ ≤ 600000; omega, by show _ ≤ 7302249; omega⟩ ?_
                                                refine v_icmp_eq (tgt := 1641) dL_law_806 (by decide) (fun c => ?_) (fun c => ?_)
                                                · replace hh := (if_pos c).symm.trans hh
                                                  refine v_iinc (v := _ + (6 : Int32)) 3 dL_law_1641 rfl rfl (by decide) rfl ?_
                                                  replace hh := lt_of hh
                                                  refine v_goto (tgt := 18) dL_law_1644 (by decide) ?_
                                                  exact v_sub [1, 2, 3, 0] rfl (ih (cc0) (ss0) (by omega) (by omega) _ _ hh)
                                                · replace hh := (if_neg c).symm.trans hh
                                                  refine v_iconst dL_law_809 (by decide : _ = (0 : Int32)) ?_
                                                  obtain rfl := Option.some.inj hh
                                                  exact v_zret dL_law_810 rfl (zb (by decide)).1 (by show _ ≤ 600000; omega) (by show _ ≤ 7302249; omega) ⟨rfl, rfl⟩
                                              · replace hh := (if_neg c).symm.trans hh
                                                refine v_iconst dL_law_798 (by decide : _ = (1 : Int32)) ?_
                                                refine v_goto (tgt := 803) dL_law_799 (by decide) ?_
                                                obtain ⟨q133, eq133, hh⟩ := bnd_some hh
                                                refine v_callVi (t_X10_moves eq133) dL_law_803 y_X10_moves ml_L_95 (ci := 9) rfl rfl (e_Model) rfl rfl (Nat.le_of_ble_eq_true rfl) ⟨(Nat.le_of_ble_eq_true rfl), (Nat.le_of_ble_eq_true rfl)⟩ ⟨by show _ ≤ 600000; omega, by show _ ≤ 7302249; omega⟩ ?_
                                                refine v_icmp_eq (tgt := 1641) dL_law_806 (by decide) (fun c => ?_) (fun c => ?_)
                                                · replace hh := (if_pos c).symm.trans hh
                                                  refine v_iinc (v := _ + (6 : Int32)) 3 dL_law_1641 rfl rfl (by decide) rfl ?_
                                                  replace hh := lt_of hh
                                                  refine v_goto (tgt := 18) dL_law_1644 (by decide) ?_
                                                  exact v_sub [1, 2, 3, 0] rfl (ih (cc0) (ss0) (by omega) (by omega) _ _ hh)
                                                · replace hh := (if_neg c).symm.trans hh
                                                  refine v_iconst dL_law_809 (by decide : _ = (0 : Int32)) ?_
                                                  obtain rfl := Option.some.inj hh
                                                  exact v_zret dL_law_810 rfl (zb (by decide)).1 (by show _ ≤ 600000; omega) (by show _ ≤ 7302249; omega) ⟨rfl, rfl⟩
                                          · skip
                                            refine sw_if hh (fun c19 hh => ?_) (fun c19 hh => ?_)
                                            · skip
                                              refine v_tableIn (tgt := 811) dL_law_33 (by rw [c19]; decide) (by rw [c19]; decide) (by rw [c19] <;> rfl) (by decide) ?_
                                              refine v_aload_n 1 dL_law_811 rfl rfl ?_
                                              refine v_aload_n 0 dL_law_812 rfl rfl ?_
                                              refine v_iload_n 3 dL_law_813 rfl rfl ?_
                                              refine v_iconst dL_law_814 (by decide : _ = (1 : Int32)) ?_
                                              refine v_iadd dL_law_815 ?_
                                              obtain ⟨g135, hh⟩ := chk_some hh
                                              replace g135 := inb_in g135
                                              refine v_sld dL_law_816 g135 ?_
                                              obtain ⟨q136, eq136, hh⟩ := bnd_some hh
                                              refine v_callVi (t_X9_is eq136) dL_law_817 y_X9_is ml_L_96 (ci := 8) rfl rfl (e_RolledOut) rfl rfl (Nat.le_of_ble_eq_true rfl) ⟨(Nat.le_of_ble_eq_true rfl), (Nat.le_of_ble_eq_true rfl)⟩ ⟨by show _ ≤ 600000; omega, by show _ ≤ 7302249; omega⟩ ?_
                                              refine v_aload_n 2 dL_law_820 rfl rfl ?_
                                              refine v_aload_n 0 dL_law_821 rfl rfl ?_
                                              refine v_iload_n 3 dL_law_822 rfl rfl ?_
                                              refine v_iconst dL_law_823 (by decide : _ = (1 : Int32)) ?_
                                              refine v_iadd dL_law_824 ?_
                                              obtain ⟨g137, hh⟩ := chk_some hh
                                              replace g137 := inb_in g137
                                              refine v_sld dL_law_825 g137 ?_
                                              obtain ⟨q138, eq138, hh⟩ := bnd_some hh
                                              refine v_callVi (t_X10_is eq138) dL_law_826 y_X10_is ml_L_99 (ci := 9) rfl rfl (e_Model) rfl rfl (Nat.le_of_ble_eq_true rfl) ⟨(Nat.le_of_ble_eq_true rfl), (Nat.le_of_ble_eq_true rfl)⟩ ⟨by show _ ≤ 600000; omega, by show _ ≤ 7302249; omega⟩ ?_
                                              refine v_icmp_eq (tgt := 1641) dL_law_829 (by decide) (fun c => ?_) (fun c => ?_)
                                              · replace hh := (if_pos c).symm.trans hh
                                                refine v_iinc (v := _ + (6 : Int32)) 3 dL_law_1641 rfl rfl (by decide) rfl ?_
                                                replace hh := lt_of hh
                                                refine v_goto (tgt := 18) dL_law_1644 (by decide) ?_
                                                exact v_sub [1, 2, 3, 0] rfl (ih (cc0) (ss0) (by omega) (by omega) _ _ hh)
                                              · replace hh := (if_neg c).symm.trans hh
                                                refine v_iconst dL_law_832 (by decide : _ = (0 : Int32)) ?_
                                                obtain rfl := Option.some.inj hh
                                                exact v_zret dL_law_833 rfl (zb (by decide)).1 (by show _ ≤ 600000; omega) (by show _ ≤ 7302249; omega) ⟨rfl, rfl⟩
                                            · skip
                                              refine sw_if hh (fun c20 hh => ?_) (fun c20 hh => ?_)
                                              · skip
                                                refine v_tableIn (tgt := 834) dL_law_33 (by rw [c20]; decide) (by rw [c20]; decide) (by rw [c20] <;> rfl) (by decide) ?_
                                                refine v_aload_n 1 dL_law_834 rfl rfl ?_
                                                refine v_aload_n 0 dL_law_835 rfl rfl ?_
                                                refine v_iload_n 3 dL_law_836 rfl rfl ?_
                                                refine v_iconst dL_law_837 (by decide : _ = (1 : Int32)) ?_
                                                refine v_iadd dL_law_838 ?_
                                                obtain ⟨g140, hh⟩ := chk_some hh
                                                replace g140 := inb_in g140
                                                refine v_sld dL_law_839 g140 ?_
                                                refine v_aload_n 0 dL_law_840 rfl rfl ?_
                                                refine v_iload_n 3 dL_law_841 rfl rfl ?_
                                                refine v_iconst dL_law_842 (by decide : _ = (2 : Int32)) ?_
                                                refine v_iadd dL_law_843 ?_
                                                obtain ⟨g141, hh⟩ := chk_some hh
                                                replace g141 := inb_in g141
                                                refine v_sld dL_law_844 g141 ?_
                                                obtain ⟨q142, eq142, hh⟩ := bnd_some hh
                                                refine v_callVi (t_X9_book eq142) dL_law_845 y_X9_book ml_L_100 (ci := 8) rfl rfl (e_RolledOut) rfl rfl (Nat.le_of_ble_eq_true rfl) ⟨(Nat.le_of_ble_eq_true rfl), (Nat.le_of_ble_eq_true rfl)⟩ ⟨by show _ ≤ 600000; omega, by show _ ≤ 7302249; omega⟩ ?_
                                                refine v_aload_n 2 dL_law_848 rfl rfl ?_
                                                refine v_aload_n 0 dL_law_849 rfl rfl ?_
                                                refine v_iload_n 3 dL_law_850 rfl rfl ?_
                                                refine v_iconst dL_law_851 (by decide : _ = (1 : Int32)) ?_
                                                refine v_iadd dL_law_852 ?_
                                                obtain ⟨g143, hh⟩ := chk_some hh
                                                replace g143 := inb_in g143
                                                refine v_sld dL_law_853 g143 ?_
                                                refine v_aload_n 0 dL_law_854 rfl rfl ?_
                                                refine v_iload_n 3 dL_law_855 rfl rfl ?_
                                                refine v_iconst dL_law_856 (by decide : _ = (2 : Int32)) ?_
                                                refine v_iadd dL_law_857 ?_
                                                obtain ⟨g144, hh⟩ := chk_some hh
                                                replace g144 := inb_in g144
                                                refine v_sld dL_law_858 g144 ?_
                                                obtain ⟨q145, eq145, hh⟩ := bnd_some hh
                                                refine v_callVi (t_X10_book eq145) dL_law_859 y_X10_book ml_L_103 (ci := 9) rfl rfl (e_Model) rfl rfl (Nat.le_of_ble_eq_true rfl) ⟨(Nat.le_of_ble_eq_true rfl), (Nat.le_of_ble_eq_true rfl)⟩ ⟨by show _ ≤ 600000; omega, by show _ ≤ 7302249; omega⟩ ?_
                                                refine v_icmp_eq (tgt := 1641) dL_law_862 (by decide) (fun c => ?_) (fun c => ?_)
                                                · replace hh := (if_pos c).symm.trans hh
                                                  refine v_iinc (v := _ + (6 : Int32)) 3 dL_law_1641 rfl rfl (by decide) rfl ?_
                                                  replace hh := lt_of hh
                                                  refine v_goto (tgt := 18) dL_law_1644 (by decide) ?_
                                                  exact v_sub [1, 2, 3, 0] rfl (ih (cc0) (ss0) (by omega) (by omega) _ _ hh)
                                                · replace hh := (if_neg c).symm.trans hh
                                                  refine v_iconst dL_law_865 (by decide : _ = (0 : Int32)) ?_
                                                  obtain rfl := Option.some.inj hh
                                                  exact v_zret dL_law_866 rfl (zb (by decide)).1 (by show _ ≤ 600000; omega) (by show _ ≤ 7302249; omega) ⟨rfl, rfl⟩
                                              · skip
                                                refine sw_if hh (fun c21 hh => ?_) (fun c21 hh => ?_)
                                                · skip
                                                  refine v_tableIn (tgt := 867) dL_law_33 (by rw [c21]; decide) (by rw [c21]; decide) (by rw [c21] <;> rfl) (by decide) ?_
                                                  refine v_aload_n 1 dL_law_867 rfl rfl ?_
                                                  refine v_aload_n 0 dL_law_868 rfl rfl ?_
                                                  refine v_iload_n 3 dL_law_869 rfl rfl ?_
                                                  refine v_iconst dL_law_870 (by decide : _ = (1 : Int32)) ?_
                                                  refine v_iadd dL_law_871 ?_
                                                  obtain ⟨g147, hh⟩ := chk_some hh
                                                  replace g147 := inb_in g147
                                                  refine v_sld dL_law_872 g147 ?_
                                                  refine v_aload_n 0 dL_law_873 rfl rfl ?_
                                                  refine v_iload_n 3 dL_law_874 rfl rfl ?_
                                                  refine v_iconst dL_law_875 (by decide : _ = (2 : Int32)) ?_
                                                  refine v_iadd dL_law_876 ?_
                                                  obtain ⟨g148, hh⟩ := chk_some hh
                                                  replace g148 := inb_in g148
                                                  refine v_sld dL_law_877 g148 ?_
                                                  refine v_aload_n 0 dL_law_878 rfl rfl ?_
                                                  refine v_iload_n 3 dL_law_879 rfl rfl ?_
                                                  refine v_iconst dL_law_880 (by decide : _ = (3 : Int32)) ?_
                                                  refine v_iadd dL_law_881 ?_
                                                  obtain ⟨g149, hh⟩ := chk_some hh
                                                  replace g149 := inb_in g149
                                                  refine v_sld dL_law_882 g149 ?_
                                                  obtain ⟨q150, eq150, hh⟩ := bnd_some hh
                                                  refine v_callVi (t_X9_foretold eq150) dL_law_883 y_X9_foretold ml_L_104 (ci := 8) rfl rfl (e_RolledOut) rfl rfl (Nat.le_of_ble_eq_true rfl) ⟨(Nat.le_of_ble_eq_true rfl), (Nat.le_of_ble_eq_true rfl)⟩ ⟨by show _ ≤ 600000; omega, by show _ ≤ 7302249; omega⟩ ?_
                                                  refine v_aload_n 2 dL_law_886 rfl rfl ?_
                                                  refine v_aload_n 0 dL_law_887 rfl rfl ?_
                                                  refine v_iload_n 3 dL_law_888 rfl rfl ?_
                                                  refine v_iconst dL_law_889 (by decide : _ = (1 : Int32)) ?_
                                                  refine v_iadd dL_law_890 ?_
                                                  obtain ⟨g151, hh⟩ := chk_some hh
                                                  replace g151 := inb_in g151
                                                  refine v_sld dL_law_891 g151 ?_
                                                  refine v_aload_n 0 dL_law_892 rfl rfl ?_
                                                  refine v_iload_n 3 dL_law_893 rfl rfl ?_
                                                  refine v_iconst dL_law_894 (by decide : _ = (2 : Int32)) ?_
                                                  refine v_iadd dL_law_895 ?_
                                                  obtain ⟨g152, hh⟩ := chk_some hh
                                                  replace g152 := inb_in g152
                                                  refine v_sld dL_law_896 g152 ?_
                                                  refine v_aload_n 0 dL_law_897 rfl rfl ?_
                                                  refine v_iload_n 3 dL_law_898 rfl rfl ?_
                                                  refine v_iconst dL_law_899 (by decide : _ = (3 : Int32)) ?_
                                                  refine v_iadd dL_law_900 ?_
                                                  obtain ⟨g153, hh⟩ := chk_some hh
                                                  replace g153 := inb_in g153
                                                  refine v_sld dL_law_901 g153 ?_
                                                  obtain ⟨q154, eq154, hh⟩ := bnd_some hh
                                                  refine v_callVi (t_X10_foretold eq154) dL_law_902 y_X10_foretold ml_L_108 (ci := 9) rfl rfl (e_Model) rfl rfl (Nat.le_of_ble_eq_true rfl) ⟨(Nat.le_of_ble_eq_true rfl), (Nat.le_of_ble_eq_true rfl)⟩ ⟨by show _ ≤ 600000; omega, by show _ ≤ 7302249; omega⟩ ?_
                                                  refine v_icmp_eq (tgt := 1641) dL_law_905 (by decide) (fun c => ?_) (fun c => ?_)
                                                  · replace hh := (if_pos c).symm.trans hh
                                                    refine v_iinc (v := _ + (6 : Int32)) 3 dL_law_1641 rfl rfl (by decide) rfl ?_
                                                    replace hh := lt_of hh
                                                    refine v_goto (tgt := 18) dL_law_1644 (by decide) ?_
                                                    exact v_sub [1, 2, 3, 0] rfl (ih (cc0) (ss0) (by omega) (by omega) _ _ hh)
                                                  · replace hh := (if_neg c).symm.trans hh
                                                    refine v_iconst dL_law_908 (by decide : _ = (0 : Int32)) ?_
                                                    obtain rfl := Option.some.inj hh
                                                    exact v_zret dL_law_909 rfl (zb (by decide)).1 (by show _ ≤ 600000; omega) (by show _ ≤ 7302249; omega) ⟨rfl, rfl⟩
                                                · skip
                                                  refine sw_if hh (fun c22 hh => ?_) (fun c22 hh => ?_)
                                                  · skip
                                                    refine v_tableIn (tgt := 910) dL_law_33 (by rw [c22]; decide) (by rw [c22]; decide) (by rw [c22] <;> rfl) (by decide) ?_
                                                    refine v_aload_n 1 dL_law_910 rfl rfl ?_
                                                    obtain ⟨q156, eq156, hh⟩ := bnd_some hh
                                                    refine v_callVi (t_X9_lake eq156) dL_law_911 y_X9_lake ml_L_109 (ci := 8) rfl rfl (e_RolledOut) rfl rfl (Nat.le_of_ble_eq_true rfl) ⟨(Nat.le_of_ble_eq_true rfl), (Nat.le_of_ble_eq_true rfl)⟩ ⟨by show _ ≤ 600000; omega, by show _ ≤ 7302249; omega⟩ ?_
                                                    refine v_aload_n 2 dL_law_914 rfl rfl ?_
                                                    obtain ⟨q157, eq157, hh⟩ := bnd_some hh
                                                    refine v_callVi (t_X10_lake eq157) dL_law_915 y_X10_lake ml_L_112 (ci := 9) rfl rfl (e_Model) rfl rfl (Nat.le_of_ble_eq_true rfl) ⟨(Nat.le_of_ble_eq_true rfl), (Nat.le_of_ble_eq_true rfl)⟩ ⟨by show _ ≤ 600000; omega, by show _ ≤ 7302249; omega⟩ ?_
                                                    refine v_icmp_eq (tgt := 1641) dL_law_918 (by decide) (fun c => ?_) (fun c => ?_)
                                                    · replace hh := (if_pos c).symm.trans hh
                                                      refine v_iinc (v := _ + (6 : Int32)) 3 dL_law_1641 rfl rfl (by decide) rfl ?_
                                                      replace hh := lt_of hh
                                                      refine v_goto (tgt := 18) dL_law_1644 (by decide) ?_
                                                      exact v_sub [1, 2, 3, 0] rfl (ih (cc0) (ss0) (by omega) (by omega) _ _ hh)
                                                    · replace hh := (if_neg c).symm.trans hh
                                                      refine v_iconst dL_law_921 (by decide : _ = (0 : Int32)) ?_
                                                      obtain rfl := Option.some.inj hh
                                                      exact v_zret dL_law_922 rfl (zb (by decide)).1 (by show _ ≤ 600000; omega) (by show _ ≤ 7302249; omega) ⟨rfl, rfl⟩
                                                  · skip
                                                    refine sw_if hh (fun c23 hh => ?_) (fun c23 hh => ?_)
                                                    · skip
                                                      refine v_tableIn (tgt := 923) dL_law_33 (by rw [c23]; decide) (by rw [c23]; decide) (by rw [c23] <;> rfl) (by decide) ?_
                                                      refine v_aload_n 1 dL_law_923 rfl rfl ?_
                                                      refine v_aload_n 0 dL_law_924 rfl rfl ?_
                                                      refine v_iload_n 3 dL_law_925 rfl rfl ?_
                                                      refine v_iconst dL_law_926 (by decide : _ = (1 : Int32)) ?_
                                                      refine v_iadd dL_law_927 ?_
                                                      obtain ⟨g159, hh⟩ := chk_some hh
                                                      replace g159 := inb_in g159
                                                      refine v_sld dL_law_928 g159 ?_
                                                      obtain ⟨q160, eq160, hh⟩ := bnd_some hh
                                                      refine v_callVi (t_X9_glaze eq160) dL_law_929 y_X9_glaze ml_L_113 (ci := 8) rfl rfl (e_RolledOut) rfl rfl (Nat.le_of_ble_eq_true rfl) ⟨(Nat.le_of_ble_eq_true rfl), (Nat.le_of_ble_eq_true rfl)⟩ ⟨by show _ ≤ 600000; omega, by show _ ≤ 7302249; omega⟩ ?_
                                                      refine v_aload_n 2 dL_law_932 rfl rfl ?_
                                                      refine v_aload_n 0 dL_law_933 rfl rfl ?_
                                                      refine v_iload_n 3 dL_law_934 rfl rfl ?_
                                                      refine v_iconst dL_law_935 (by decide : _ = (1 : Int32)) ?_
                                                      refine v_iadd dL_law_936 ?_
                                                      obtain ⟨g161, hh⟩ := chk_some hh
                                                      replace g161 := inb_in g161
                                                      refine v_sld dL_law_937 g161 ?_
                                                      obtain ⟨q162, eq162, hh⟩ := bnd_some hh
                                                      refine v_callVi (t_X10_glaze eq162) dL_law_938 y_X10_glaze ml_L_116 (ci := 9) rfl rfl (e_Model) rfl rfl (Nat.le_of_ble_eq_true rfl) ⟨(Nat.le_of_ble_eq_true rfl), (Nat.le_of_ble_eq_true rfl)⟩ ⟨by show _ ≤ 600000; omega, by show _ ≤ 7302249; omega⟩ ?_
                                                      refine v_icmp_eq (tgt := 1641) dL_law_941 (by decide) (fun c => ?_) (fun c => ?_)
                                                      · replace hh := (if_pos c).symm.trans hh
                                                        refine v_iinc (v := _ + (6 : Int32)) 3 dL_law_1641 rfl rfl (by decide) rfl ?_
                                                        replace hh := lt_of hh
                                                        refine v_goto (tgt := 18) dL_law_1644 (by decide) ?_
                                                        exact v_sub [1, 2, 3, 0] rfl (ih (cc0) (ss0) (by omega) (by omega) _ _ hh)
                                                      · replace hh := (if_neg c).symm.trans hh
                                                        refine v_iconst dL_law_944 (by decide : _ = (0 : Int32)) ?_
                                                        obtain rfl := Option.some.inj hh
                                                        exact v_zret dL_law_945 rfl (zb (by decide)).1 (by show _ ≤ 600000; omega) (by show _ ≤ 7302249; omega) ⟨rfl, rfl⟩
                                                    · skip
                                                      refine sw_if hh (fun c24 hh => ?_) (fun c24 hh => ?_)
                                                      · skip
                                                        refine v_tableIn (tgt := 946) dL_law_33 (by rw [c24]; decide) (by rw [c24]; decide) (by rw [c24] <;> rfl) (by decide) ?_
                                                        refine v_aload_n 1 dL_law_946 rfl rfl ?_
                                                        refine v_aload_n 0 dL_law_947 rfl rfl ?_
                                                        refine v_iload_n 3 dL_law_948 rfl rfl ?_
                                                        refine v_iconst dL_law_949 (by decide : _ = (1 : Int32)) ?_
                                                        refine v_iadd dL_law_950 ?_
                                                        obtain ⟨g164, hh⟩ := chk_some hh
                                                        replace g164 := inb_in g164
                                                        refine v_sld dL_law_951 g164 ?_
                                                        obtain ⟨q165, eq165, hh⟩ := bnd_some hh
                                                        refine v_callVi (t_X9_rise eq165) dL_law_952 y_X9_rise ml_L_117 (ci := 8) rfl rfl (e_RolledOut) rfl rfl (Nat.le_of_ble_eq_true rfl) ⟨(Nat.le_of_ble_eq_true rfl), (Nat.le_of_ble_eq_true rfl)⟩ ⟨by show _ ≤ 600000; omega, by show _ ≤ 7302249; omega⟩ ?_
                                                        refine v_aload_n 2 dL_law_955 rfl rfl ?_
                                                        refine v_aload_n 0 dL_law_956 rfl rfl ?_
                                                        refine v_iload_n 3 dL_law_957 rfl rfl ?_
                                                        refine v_iconst dL_law_958 (by decide : _ = (1 : Int32)) ?_
                                                        refine v_iadd dL_law_959 ?_
                                                        obtain ⟨g166, hh⟩ := chk_some hh
                                                        replace g166 := inb_in g166
                                                        refine v_sld dL_law_960 g166 ?_
                                                        obtain ⟨q167, eq167, hh⟩ := bnd_some hh
                                                        refine v_callVi (t_X10_rise eq167) dL_law_961 y_X10_rise ml_L_120 (ci := 9) rfl rfl (e_Model) rfl rfl (Nat.le_of_ble_eq_true rfl) ⟨(Nat.le_of_ble_eq_true rfl), (Nat.le_of_ble_eq_true rfl)⟩ ⟨by show _ ≤ 600000; omega, by show _ ≤ 7302249; omega⟩ ?_
                                                        refine v_icmp_eq (tgt := 1641) dL_law_964 (by decide) (fun c => ?_) (fun c => ?_)
                                                        · replace hh := (if_pos c).symm.trans hh
                                                          refine v_iinc (v := _ + (6 : Int32)) 3 dL_law_1641 rfl rfl (by decide) rfl ?_
                                                          replace hh := lt_of hh
                                                          refine v_goto (tgt := 18) dL_law_1644 (by decide) ?_
                                                          exact v_sub [1, 2, 3, 0] rfl (ih (cc0) (ss0) (by omega) (by omega) _ _ hh)
                                                        · replace hh := (if_neg c).symm.trans hh
                                                          refine v_iconst dL_law_967 (by decide : _ = (0 : Int32)) ?_
                                                          obtain rfl := Option.some.inj hh
                                                          exact v_zret dL_law_968 rfl (zb (by decide)).1 (by show _ ≤ 600000; omega) (by show _ ≤ 7302249; omega) ⟨rfl, rfl⟩
                                                      · skip
                                                        refine sw_if hh (fun c25 hh => ?_) (fun c25 hh => ?_)
                                                        · skip
                                                          refine v_tableIn (tgt := 969) dL_law_33 (by rw [c25]; decide) (by rw [c25]; decide) (by rw [c25] <;> rfl) (by decide) ?_
                                                          refine v_aload_n 1 dL_law_969 rfl rfl ?_
                                                          obtain ⟨q169, eq169, hh⟩ := bnd_some hh
                                                          refine v_callVi (t_X9_folds eq169) dL_law_970 y_X9_folds ml_L_121 (ci := 8) rfl rfl (e_RolledOut) rfl rfl (Nat.le_of_ble_eq_true rfl) ⟨(Nat.le_of_ble_eq_true rfl), (Nat.le_of_ble_eq_true rfl)⟩ ⟨by show _ ≤ 600000; omega, by show _ ≤ 7302249; omega⟩ ?_
                                                          refine v_aload_n 2 dL_law_973 rfl rfl ?_
                                                          obtain ⟨q170, eq170, hh⟩ := bnd_some hh
                                                          refine v_callVi (t_X10_folds eq170) dL_law_974 y_X10_folds ml_L_124 (ci := 9) rfl rfl (e_Model) rfl rfl (Nat.le_of_ble_eq_true rfl) ⟨(Nat.le_of_ble_eq_true rfl), (Nat.le_of_ble_eq_true rfl)⟩ ⟨by show _ ≤ 600000; omega, by show _ ≤ 7302249; omega⟩ ?_
                                                          refine v_icmp_eq (tgt := 1641) dL_law_977 (by decide) (fun c => ?_) (fun c => ?_)
                                                          · replace hh := (if_pos c).symm.trans hh
                                                            refine v_iinc (v := _ + (6 : Int32)) 3 dL_law_1641 rfl rfl (by decide) rfl ?_
                                                            replace hh := lt_of hh
                                                            refine v_goto (tgt := 18) dL_law_1644 (by decide) ?_
                                                            exact v_sub [1, 2, 3, 0] rfl (ih (cc0) (ss0) (by omega) (by omega) _ _ hh)
                                                          · replace hh := (if_neg c).symm.trans hh
                                                            refine v_iconst dL_law_980 (by decide : _ = (0 : Int32)) ?_
                                                            obtain rfl := Option.some.inj hh
                                                            exact v_zret dL_law_981 rfl (zb (by decide)).1 (by show _ ≤ 600000; omega) (by show _ ≤ 7302249; omega) ⟨rfl, rfl⟩
                                                        · skip
                                                          refine sw_if hh (fun c26 hh => ?_) (fun c26 hh => ?_)
                                                          · skip
                                                            refine v_tableIn (tgt := 982) dL_law_33 (by rw [c26]; decide) (by rw [c26]; decide) (by rw [c26] <;> rfl) (by decide) ?_
                                                            refine v_aload_n 1 dL_law_982 rfl rfl ?_
                                                            obtain ⟨q172, eq172, hh⟩ := bnd_some hh
                                                            refine v_callVi (t_X9_peaks eq172) dL_law_983 y_X9_peaks ml_L_125 (ci := 8) rfl rfl (e_RolledOut) rfl rfl (Nat.le_of_ble_eq_true rfl) ⟨(Nat.le_of_ble_eq_true rfl), (Nat.le_of_ble_eq_true rfl)⟩ ⟨by show _ ≤ 600000; omega, by show _ ≤ 7302249; omega⟩ ?_
                                                            refine v_aload_n 2 dL_law_986 rfl rfl ?_
                                                            obtain ⟨q173, eq173, hh⟩ := bnd_some hh
                                                            refine v_callVi (t_X10_peaks eq173) dL_law_987 y_X10_peaks ml_L_128 (ci := 9) rfl rfl (e_Model) rfl rfl (Nat.le_of_ble_eq_true rfl) ⟨(Nat.le_of_ble_eq_true rfl), (Nat.le_of_ble_eq_true rfl)⟩ ⟨by show _ ≤ 600000; omega, by show _ ≤ 7302249; omega⟩ ?_
                                                            refine v_icmp_eq (tgt := 1641) dL_law_990 (by decide) (fun c => ?_) (fun c => ?_)
                                                            · replace hh := (if_pos c).symm.trans hh
                                                              refine v_iinc (v := _ + (6 : Int32)) 3 dL_law_1641 rfl rfl (by decide) rfl ?_
                                                              replace hh := lt_of hh
                                                              refine v_goto (tgt := 18) dL_law_1644 (by decide) ?_
                                                              exact v_sub [1, 2, 3, 0] rfl (ih (cc0) (ss0) (by omega) (by omega) _ _ hh)
                                                            · replace hh := (if_neg c).symm.trans hh
                                                              refine v_iconst dL_law_993 (by decide : _ = (0 : Int32)) ?_
                                                              obtain rfl := Option.some.inj hh
                                                              exact v_zret dL_law_994 rfl (zb (by decide)).1 (by show _ ≤ 600000; omega) (by show _ ≤ 7302249; omega) ⟨rfl, rfl⟩
                                                          · skip
                                                            refine sw_if hh (fun c27 hh => ?_) (fun c27 hh => ?_)
                                                            · skip
                                                              refine v_tableIn (tgt := 995) dL_law_33 (by rw [c27]; decide) (by rw [c27]; decide) (by rw [c27] <;> rfl) (by decide) ?_
                                                              refine v_aload_n 1 dL_law_995 rfl rfl ?_
                                                              refine v_aload_n 0 dL_law_996 rfl rfl ?_
                                                              refine v_iload_n 3 dL_law_997 rfl rfl ?_
                                                              refine v_iconst dL_law_998 (by decide : _ = (1 : Int32)) ?_
                                                              refine v_iadd dL_law_999 ?_
                                                              obtain ⟨g175, hh⟩ := chk_some hh
                                                              replace g175 := inb_in g175
                                                              refine v_sld dL_law_1000 g175 ?_
                                                              obtain ⟨q176, eq176, hh⟩ := bnd_some hh
                                                              refine v_callVi (t_X9_richest eq176) dL_law_1001 y_X9_richest ml_L_129 (ci := 8) rfl rfl (e_RolledOut) rfl rfl (Nat.le_of_ble_eq_true rfl) ⟨(Nat.le_of_ble_eq_true rfl), (Nat.le_of_ble_eq_true rfl)⟩ ⟨by show _ ≤ 600000; omega, by show _ ≤ 7302249; omega⟩ ?_
                                                              refine v_aload_n 2 dL_law_1004 rfl rfl ?_
                                                              refine v_aload_n 0 dL_law_1005 rfl rfl ?_
                                                              refine v_iload_n 3 dL_law_1006 rfl rfl ?_
                                                              refine v_iconst dL_law_1007 (by decide : _ = (1 : Int32)) ?_
                                                              refine v_iadd dL_law_1008 ?_
                                                              obtain ⟨g177, hh⟩ := chk_some hh
                                                              replace g177 := inb_in g177
                                                              refine v_sld dL_law_1009 g177 ?_
                                                              obtain ⟨q178, eq178, hh⟩ := bnd_some hh
                                                              refine v_callVi (t_X10_richest eq178) dL_law_1010 y_X10_richest ml_L_132 (ci := 9) rfl rfl (e_Model) rfl rfl (Nat.le_of_ble_eq_true rfl) ⟨(Nat.le_of_ble_eq_true rfl), (Nat.le_of_ble_eq_true rfl)⟩ ⟨by show _ ≤ 600000; omega, by show _ ≤ 7302249; omega⟩ ?_
                                                              refine v_icmp_eq (tgt := 1641) dL_law_1013 (by decide) (fun c => ?_) (fun c => ?_)
                                                              · replace hh := (if_pos c).symm.trans hh
                                                                refine v_iinc (v := _ + (6 : Int32)) 3 dL_law_1641 rfl rfl (by decide) rfl ?_
                                                                replace hh := lt_of hh
                                                                refine v_goto (tgt := 18) dL_law_1644 (by decide) ?_
                                                                exact v_sub [1, 2, 3, 0] rfl (ih (cc0) (ss0) (by omega) (by omega) _ _ hh)
                                                              · replace hh := (if_neg c).symm.trans hh
                                                                refine v_iconst dL_law_1016 (by decide : _ = (0 : Int32)) ?_
                                                                obtain rfl := Option.some.inj hh
                                                                exact v_zret dL_law_1017 rfl (zb (by decide)).1 (by show _ ≤ 600000; omega) (by show _ ≤ 7302249; omega) ⟨rfl, rfl⟩
                                                            · skip
                                                              refine sw_if hh (fun c28 hh => ?_) (fun c28 hh => ?_)
                                                              · skip
                                                                refine v_tableIn (tgt := 1018) dL_law_33 (by rw [c28]; decide) (by rw [c28]; decide) (by rw [c28] <;> rfl) (by decide) ?_
                                                                refine v_aload_n 1 dL_law_1018 rfl rfl ?_
                                                                refine v_aload_n 0 dL_law_1019 rfl rfl ?_
                                                                refine v_iload_n 3 dL_law_1020 rfl rfl ?_
                                                                refine v_iconst dL_law_1021 (by decide : _ = (1 : Int32)) ?_
                                                                refine v_iadd dL_law_1022 ?_
                                                                obtain ⟨g180, hh⟩ := chk_some hh
                                                                replace g180 := inb_in g180
                                                                refine v_sld dL_law_1023 g180 ?_
                                                                obtain ⟨q181, eq181, hh⟩ := bnd_some hh
                                                                refine v_callVi (t_X9_islands eq181) dL_law_1024 y_X9_islands ml_L_133 (ci := 8) rfl rfl (e_RolledOut) rfl rfl (Nat.le_of_ble_eq_true rfl) ⟨(Nat.le_of_ble_eq_true rfl), (Nat.le_of_ble_eq_true rfl)⟩ ⟨by show _ ≤ 600000; omega, by show _ ≤ 7302249; omega⟩ ?_
                                                                refine v_aload_n 2 dL_law_1027 rfl rfl ?_
                                                                refine v_aload_n 0 dL_law_1028 rfl rfl ?_
                                                                refine v_iload_n 3 dL_law_1029 rfl rfl ?_
                                                                refine v_iconst dL_law_1030 (by decide : _ = (1 : Int32)) ?_
                                                                refine v_iadd dL_law_1031 ?_
                                                                obtain ⟨g182, hh⟩ := chk_some hh
                                                                replace g182 := inb_in g182
                                                                refine v_sld dL_law_1032 g182 ?_
                                                                obtain ⟨q183, eq183, hh⟩ := bnd_some hh
                                                                refine v_callVi (t_X10_islands eq183) dL_law_1033 y_X10_islands ml_L_136 (ci := 9) rfl rfl (e_Model) rfl rfl (Nat.le_of_ble_eq_true rfl) ⟨(Nat.le_of_ble_eq_true rfl), (Nat.le_of_ble_eq_true rfl)⟩ ⟨by show _ ≤ 600000; omega, by show _ ≤ 7302249; omega⟩ ?_
                                                                refine v_icmp_eq (tgt := 1641) dL_law_1036 (by decide) (fun c => ?_) (fun c => ?_)
                                                                · replace hh := (if_pos c).symm.trans hh
                                                                  refine v_iinc (v := _ + (6 : Int32)) 3 dL_law_1641 rfl rfl (by decide) rfl ?_
                                                                  replace hh := lt_of hh
                                                                  refine v_goto (tgt := 18) dL_law_1644 (by decide) ?_
                                                                  exact v_sub [1, 2, 3, 0] rfl (ih (cc0) (ss0) (by omega) (by omega) _ _ hh)
                                                                · replace hh := (if_neg c).symm.trans hh
                                                                  refine v_iconst dL_law_1039 (by decide : _ = (0 : Int32)) ?_
                                                                  obtain rfl := Option.some.inj hh
                                                                  exact v_zret dL_law_1040 rfl (zb (by decide)).1 (by show _ ≤ 600000; omega) (by show _ ≤ 7302249; omega) ⟨rfl, rfl⟩
                                                              · skip
                                                                refine sw_if hh (fun c29 hh => ?_) (fun c29 hh => ?_)
                                                                · skip
                                                                  refine v_tableIn (tgt := 1041) dL_law_33 (by rw [c29]; decide) (by rw [c29]; decide) (by rw [c29] <;> rfl) (by decide) ?_
                                                                  refine v_aload_n 1 dL_law_1041 rfl rfl ?_
                                                                  refine v_aload_n 0 dL_law_1042 rfl rfl ?_
                                                                  refine v_iload_n 3 dL_law_1043 rfl rfl ?_
                                                                  refine v_iconst dL_law_1044 (by decide : _ = (1 : Int32)) ?_
                                                                  refine v_iadd dL_law_1045 ?_
                                                                  obtain ⟨g185, hh⟩ := chk_some hh
                                                                  replace g185 := inb_in g185
                                                                  refine v_sld dL_law_1046 g185 ?_
                                                                  refine v_aload_n 0 dL_law_1047 rfl rfl ?_
                                                                  refine v_iload_n 3 dL_law_1048 rfl rfl ?_
                                                                  refine v_iconst dL_law_1049 (by decide : _ = (2 : Int32)) ?_
                                                                  refine v_iadd dL_law_1050 ?_
                                                                  obtain ⟨g186, hh⟩ := chk_some hh
                                                                  replace g186 := inb_in g186
                                                                  refine v_sld dL_law_1051 g186 ?_
                                                                  refine v_if_eq (tgt := 1059) dL_law_1052 (by decide) (fun c => ?_) (fun c => ?_)
                                                                  · replace hh := (if_pos c).symm.trans hh
                                                                    refine v_iconst dL_law_1059 (by decide : _ = (0 : Int32)) ?_
                                                                    obtain ⟨q187, eq187, hh⟩ := bnd_some hh
                                                                    refine v_callVi (t_X9_sees eq187) dL_law_1060 y_X9_sees ml_L_137 (ci := 8) rfl rfl (e_RolledOut) rfl rfl (Nat.le_of_ble_eq_true rfl) ⟨(Nat.le_of_ble_eq_true rfl), (Nat.le_of_ble_eq_true rfl)⟩ ⟨by show _ ≤ 600000; omega, by show _ ≤ 7302249; omega⟩ ?_
                                                                    refine v_aload_n 2 dL_law_1063 rfl rfl ?_
                                                                    refine v_aload_n 0 dL_law_1064 rfl rfl ?_
                                                                    refine v_iload_n 3 dL_law_1065 rfl rfl ?_
                                                                    refine v_iconst dL_law_1066 (by decide : _ = (1 : Int32)) ?_
                                                                    refine v_iadd dL_law_1067 ?_
                                                                    obtain ⟨g188, hh⟩ := chk_some hh
                                                                    replace g188 := inb_in g188
                                                                    refine v_sld dL_law_1068 g188 ?_
                                                                    refine v_aload_n 0 dL_law_1069 rfl rfl ?_
                                                                    refine v_iload_n 3 dL_law_1070 rfl rfl ?_
                                                                    refine v_iconst dL_law_1071 (by decide : _ = (2 : Int32)) ?_
                                                                    refine v_iadd dL_law_1072 ?_
                                                                    obtain ⟨g189, hh⟩ := chk_some hh
                                                                    replace g189 := inb_in g189
                                                                    refine v_sld dL_law_1073 g189 ?_
                                                                    refine v_if_eq (tgt := 1081) dL_law_1074 (by decide) (fun c => ?_) (fun c => ?_)
                                                                    · replace hh := (if_pos c).symm.trans hh
                                                                      refine v_iconst dL_law_1081 (by decide : _ = (0 : Int32)) ?_
                                                                      obtain ⟨q190, eq190, hh⟩ := bnd_some hh
                                                                      refine v_callVi (t_X10_sees eq190) dL_law_1082 y_X10_sees ml_L_141 (ci := 9) rfl rfl (e_Model) rfl rfl (Nat.le_of_ble_eq_true rfl) ⟨(Nat.le_of_ble_eq_true rfl), (Nat.le_of_ble_eq_true rfl)⟩ ⟨by show _ ≤ 600000; omega, by show _ ≤ 7302249; omega⟩ ?_
                                                                      refine v_icmp_eq (tgt := 1641) dL_law_1085 (by decide) (fun c => ?_) (fun c => ?_)
                                                                      · replace hh := (if_pos c).symm.trans hh
                                                                        refine v_iinc (v := _ + (6 : Int32)) 3 dL_law_1641 rfl rfl (by decide) rfl ?_
                                                                        replace hh := lt_of hh
                                                                        refine v_goto (tgt := 18) dL_law_1644 (by decide) ?_
                                                                        exact v_sub [1, 2, 3, 0] rfl (ih (cc0) (ss0) (by omega) (by omega) _ _ hh)
                                                                      · replace hh := (if_neg c).symm.trans hh
                                                                        refine v_iconst dL_law_1088 (by decide : _ = (0 : Int32)) ?_
                                                                        obtain rfl := Option.some.inj hh
                                                                        exact v_zret dL_law_1089 rfl (zb (by decide)).1 (by show _ ≤ 600000; omega) (by show _ ≤ 7302249; omega) ⟨rfl, rfl⟩
                                                                    · replace hh := (if_neg c).symm.trans hh
                                                                      refine v_iconst dL_law_1077 (by decide : _ = (1 : Int32)) ?_
                                                                      refine v_goto (tgt := 1082) dL_law_1078 (by decide) ?_
                                                                      obtain ⟨q192, eq192, hh⟩ := bnd_some hh
                                                                      refine v_callVi (t_X10_sees eq192) dL_law_1082 y_X10_sees ml_L_141 (ci := 9) rfl rfl (e_Model) rfl rfl (Nat.le_of_ble_eq_true rfl) ⟨(Nat.le_of_ble_eq_true rfl), (Nat.le_of_ble_eq_true rfl)⟩ ⟨by show _ ≤ 600000; omega, by show _ ≤ 7302249; omega⟩ ?_
                                                                      refine v_icmp_eq (tgt := 1641) dL_law_1085 (by decide) (fun c => ?_) (fun c => ?_)
                                                                      · replace hh := (if_pos c).symm.trans hh
                                                                        refine v_iinc (v := _ + (6 : Int32)) 3 dL_law_1641 rfl rfl (by decide) rfl ?_
                                                                        replace hh := lt_of hh
                                                                        refine v_goto (tgt := 18) dL_law_1644 (by decide) ?_
                                                                        exact v_sub [1, 2, 3, 0] rfl (ih (cc0) (ss0) (by omega) (by omega) _ _ hh)
                                                                      · replace hh := (if_neg c).symm.trans hh
                                                                        refine v_iconst dL_law_1088 (by decide : _ = (0 : Int32)) ?_
                                                                        obtain rfl := Option.some.inj hh
                                                                        exact v_zret dL_law_1089 rfl (zb (by decide)).1 (by show _ ≤ 600000; omega) (by show _ ≤ 7302249; omega) ⟨rfl, rfl⟩
                                                                  · replace hh := (if_neg c).symm.trans hh
                                                                    refine v_iconst dL_law_1055 (by decide : _ = (1 : Int32)) ?_
                                                                    refine v_goto (tgt := 1060) dL_law_1056 (by decide) ?_
                                                                    obtain ⟨q194, eq194, hh⟩ := bnd_some hh
                                                                    refine v_callVi (t_X9_sees eq194) dL_law_1060 y_X9_sees ml_L_137 (ci := 8) rfl rfl (e_RolledOut) rfl rfl (Nat.le_of_ble_eq_true rfl) ⟨(Nat.le_of_ble_eq_true rfl), (Nat.le_of_ble_eq_true rfl)⟩ ⟨by show _ ≤ 600000; omega, by show _ ≤ 7302249; omega⟩ ?_
                                                                    refine v_aload_n 2 dL_law_1063 rfl rfl ?_
                                                                    refine v_aload_n 0 dL_law_1064 rfl rfl ?_
                                                                    refine v_iload_n 3 dL_law_1065 rfl rfl ?_
                                                                    refine v_iconst dL_law_1066 (by decide : _ = (1 : Int32)) ?_
                                                                    refine v_iadd dL_law_1067 ?_
                                                                    obtain ⟨g195, hh⟩ := chk_some hh
                                                                    replace g195 := inb_in g195
                                                                    refine v_sld dL_law_1068 g195 ?_
                                                                    refine v_aload_n 0 dL_law_1069 rfl rfl ?_
                                                                    refine v_iload_n 3 dL_law_1070 rfl rfl ?_
                                                                    refine v_iconst dL_law_1071 (by decide : _ = (2 : Int32)) ?_
                                                                    refine v_iadd dL_law_1072 ?_
                                                                    obtain ⟨g196, hh⟩ := chk_some hh
                                                                    replace g196 := inb_in g196
                                                                    refine v_sld dL_law_1073 g196 ?_
                                                                    refine v_if_eq (tgt := 1081) dL_law_1074 (by decide) (fun c => ?_) (fun c => ?_)
                                                                    · replace hh := (if_pos c).symm.trans hh
                                                                      refine v_iconst dL_law_1081 (by decide : _ = (0 : Int32)) ?_
                                                                      obtain ⟨q197, eq197, hh⟩ := bnd_some hh
                                                                      refine v_callVi (t_X10_sees eq197) dL_law_1082 y_X10_sees ml_L_141 (ci := 9) rfl rfl (e_Model) rfl rfl (Nat.le_of_ble_eq_true rfl) ⟨(Nat.le_of_ble_eq_true rfl), (Nat.le_of_ble_eq_true rfl)⟩ ⟨by show _ ≤ 600000; omega, by show _ ≤ 7302249; omega⟩ ?_
                                                                      refine v_icmp_eq (tgt := 1641) dL_law_1085 (by decide) (fun c => ?_) (fun c => ?_)
                                                                      · replace hh := (if_pos c).symm.trans hh
                                                                        refine v_iinc (v := _ + (6 : Int32)) 3 dL_law_1641 rfl rfl (by decide) rfl ?_
                                                                        replace hh := lt_of hh
                                                                        refine v_goto (tgt := 18) dL_law_1644 (by decide) ?_
                                                                        exact v_sub [1, 2, 3, 0] rfl (ih (cc0) (ss0) (by omega) (by omega) _ _ hh)
                                                                      · replace hh := (if_neg c).symm.trans hh
                                                                        refine v_iconst dL_law_1088 (by decide : _ = (0 : Int32)) ?_
                                                                        obtain rfl := Option.some.inj hh
                                                                        exact v_zret dL_law_1089 rfl (zb (by decide)).1 (by show _ ≤ 600000; omega) (by show _ ≤ 7302249; omega) ⟨rfl, rfl⟩
                                                                    · replace hh := (if_neg c).symm.trans hh
                                                                      refine v_iconst dL_law_1077 (by decide : _ = (1 : Int32)) ?_
                                                                      refine v_goto (tgt := 1082) dL_law_1078 (by decide) ?_
                                                                      obtain ⟨q199, eq199, hh⟩ := bnd_some hh
                                                                      refine v_callVi (t_X10_sees eq199) dL_law_1082 y_X10_sees ml_L_141 (ci := 9) rfl rfl (e_Model) rfl rfl (Nat.le_of_ble_eq_true rfl) ⟨(Nat.le_of_ble_eq_true rfl), (Nat.le_of_ble_eq_true rfl)⟩ ⟨by show _ ≤ 600000; omega, by show _ ≤ 7302249; omega⟩ ?_
                                                                      refine v_icmp_eq (tgt := 1641) dL_law_1085 (by decide) (fun c => ?_) (fun c => ?_)
                                                                      · replace hh := (if_pos c).symm.trans hh
                                                                        refine v_iinc (v := _ + (6 : Int32)) 3 dL_law_1641 rfl rfl (by decide) rfl ?_
                                                                        replace hh := lt_of hh
                                                                        refine v_goto (tgt := 18) dL_law_1644 (by decide) ?_
                                                                        exact v_sub [1, 2, 3, 0] rfl (ih (cc0) (ss0) (by omega) (by omega) _ _ hh)
                                                                      · replace hh := (if_neg c).symm.trans hh
                                                                        refine v_iconst dL_law_1088 (by decide : _ = (0 : Int32)) ?_
                                                                        obtain rfl := Option.some.inj hh
                                                                        exact v_zret dL_law_1089 rfl (zb (by decide)).1 (by show _ ≤ 600000; omega) (by show _ ≤ 7302249; omega) ⟨rfl, rfl⟩
                                                                · skip
                                                                  refine sw_if hh (fun c30 hh => ?_) (fun c30 hh => ?_)
                                                                  · skip
                                                                    refine v_tableIn (tgt := 1090) dL_law_33 (by rw [c30]; decide) (by rw [c30]; decide) (by rw [c30] <;> rfl) (by decide) ?_
                                                                    refine v_aload_n 1 dL_law_1090 rfl rfl ?_
                                                                    refine v_aload_n 0 dL_law_1091 rfl rfl ?_
                                                                    refine v_iload_n 3 dL_law_1092 rfl rfl ?_
                                                                    refine v_iconst dL_law_1093 (by decide : _ = (1 : Int32)) ?_
                                                                    refine v_iadd dL_law_1094 ?_
                                                                    obtain ⟨g201, hh⟩ := chk_some hh
                                                                    replace g201 := inb_in g201
                                                                    refine v_sld dL_law_1095 g201 ?_
                                                                    obtain ⟨q202, eq202, hh⟩ := bnd_some hh
                                                                    refine v_callVi (t_X9_middle eq202) dL_law_1096 y_X9_middle ml_L_142 (ci := 8) rfl rfl (e_RolledOut) rfl rfl (Nat.le_of_ble_eq_true rfl) ⟨(Nat.le_of_ble_eq_true rfl), (Nat.le_of_ble_eq_true rfl)⟩ ⟨by show _ ≤ 600000; omega, by show _ ≤ 7302249; omega⟩ ?_
                                                                    refine v_aload_n 2 dL_law_1099 rfl rfl ?_
                                                                    refine v_aload_n 0 dL_law_1100 rfl rfl ?_
                                                                    refine v_iload_n 3 dL_law_1101 rfl rfl ?_
                                                                    refine v_iconst dL_law_1102 (by decide : _ = (1 : Int32)) ?_
                                                                    refine v_iadd dL_law_1103 ?_
                                                                    obtain ⟨g203, hh⟩ := chk_some hh
                                                                    replace g203 := inb_in g203
                                                                    refine v_sld dL_law_1104 g203 ?_
                                                                    obtain ⟨q204, eq204, hh⟩ := bnd_some hh
                                                                    refine v_callVi (t_X10_middle eq204) dL_law_1105 y_X10_middle ml_L_145 (ci := 9) rfl rfl (e_Model) rfl rfl (Nat.le_of_ble_eq_true rfl) ⟨(Nat.le_of_ble_eq_true rfl), (Nat.le_of_ble_eq_true rfl)⟩ ⟨by show _ ≤ 600000; omega, by show _ ≤ 7302249; omega⟩ ?_
                                                                    refine v_icmp_eq (tgt := 1641) dL_law_1108 (by decide) (fun c => ?_) (fun c => ?_)
                                                                    · replace hh := (if_pos c).symm.trans hh
                                                                      refine v_iinc (v := _ + (6 : Int32)) 3 dL_law_1641 rfl rfl (by decide) rfl ?_
                                                                      replace hh := lt_of hh
                                                                      refine v_goto (tgt := 18) dL_law_1644 (by decide) ?_
                                                                      exact v_sub [1, 2, 3, 0] rfl (ih (cc0) (ss0) (by omega) (by omega) _ _ hh)
                                                                    · replace hh := (if_neg c).symm.trans hh
                                                                      refine v_iconst dL_law_1111 (by decide : _ = (0 : Int32)) ?_
                                                                      obtain rfl := Option.some.inj hh
                                                                      exact v_zret dL_law_1112 rfl (zb (by decide)).1 (by show _ ≤ 600000; omega) (by show _ ≤ 7302249; omega) ⟨rfl, rfl⟩
                                                                  · skip
                                                                    refine sw_if hh (fun c31 hh => ?_) (fun c31 hh => ?_)
                                                                    · skip
                                                                      refine v_tableIn (tgt := 1113) dL_law_33 (by rw [c31]; decide) (by rw [c31]; decide) (by rw [c31] <;> rfl) (by decide) ?_
                                                                      refine v_aload_n 1 dL_law_1113 rfl rfl ?_
                                                                      obtain ⟨q206, eq206, hh⟩ := bnd_some hh
                                                                      refine v_callVi (t_X9_carried eq206) dL_law_1114 y_X9_carried ml_L_146 (ci := 8) rfl rfl (e_RolledOut) rfl rfl (Nat.le_of_ble_eq_true rfl) ⟨(Nat.le_of_ble_eq_true rfl), (Nat.le_of_ble_eq_true rfl)⟩ ⟨by show _ ≤ 600000; omega, by show _ ≤ 7302249; omega⟩ ?_
                                                                      refine v_aload_n 2 dL_law_1117 rfl rfl ?_
                                                                      obtain ⟨q207, eq207, hh⟩ := bnd_some hh
                                                                      refine v_callVi (t_X10_carried eq207) dL_law_1118 y_X10_carried ml_L_149 (ci := 9) rfl rfl (e_Model) rfl rfl (Nat.le_of_ble_eq_true rfl) ⟨(Nat.le_of_ble_eq_true rfl), (Nat.le_of_ble_eq_true rfl)⟩ ⟨by show _ ≤ 600000; omega, by show _ ≤ 7302249; omega⟩ ?_
                                                                      refine v_icmp_eq (tgt := 1641) dL_law_1121 (by decide) (fun c => ?_) (fun c => ?_)
                                                                      · replace hh := (if_pos c).symm.trans hh
                                                                        refine v_iinc (v := _ + (6 : Int32)) 3 dL_law_1641 rfl rfl (by decide) rfl ?_
                                                                        replace hh := lt_of hh
                                                                        refine v_goto (tgt := 18) dL_law_1644 (by decide) ?_
                                                                        exact v_sub [1, 2, 3, 0] rfl (ih (cc0) (ss0) (by omega) (by omega) _ _ hh)
                                                                      · replace hh := (if_neg c).symm.trans hh
                                                                        refine v_iconst dL_law_1124 (by decide : _ = (0 : Int32)) ?_
                                                                        obtain rfl := Option.some.inj hh
                                                                        exact v_zret dL_law_1125 rfl (zb (by decide)).1 (by show _ ≤ 600000; omega) (by show _ ≤ 7302249; omega) ⟨rfl, rfl⟩
                                                                    · skip
                                                                      refine sw_if hh (fun c32 hh => ?_) (fun c32 hh => ?_)
                                                                      · skip
                                                                        refine v_tableIn (tgt := 1126) dL_law_33 (by rw [c32]; decide) (by rw [c32]; decide) (by rw [c32] <;> rfl) (by decide) ?_
                                                                        refine v_aload_n 1 dL_law_1126 rfl rfl ?_
                                                                        obtain ⟨q209, eq209, hh⟩ := bnd_some hh
                                                                        refine v_callVi (t_X9_level eq209) dL_law_1127 y_X9_level ml_L_150 (ci := 8) rfl rfl (e_RolledOut) rfl rfl (Nat.le_of_ble_eq_true rfl) ⟨(Nat.le_of_ble_eq_true rfl), (Nat.le_of_ble_eq_true rfl)⟩ ⟨by show _ ≤ 600000; omega, by show _ ≤ 7302249; omega⟩ ?_
                                                                        refine v_aload_n 2 dL_law_1130 rfl rfl ?_
                                                                        obtain ⟨q210, eq210, hh⟩ := bnd_some hh
                                                                        refine v_callVi (t_X10_level eq210) dL_law_1131 y_X10_level ml_L_153 (ci := 9) rfl rfl (e_Model) rfl rfl (Nat.le_of_ble_eq_true rfl) ⟨(Nat.le_of_ble_eq_true rfl), (Nat.le_of_ble_eq_true rfl)⟩ ⟨by show _ ≤ 600000; omega, by show _ ≤ 7302249; omega⟩ ?_
                                                                        refine v_icmp_eq (tgt := 1641) dL_law_1134 (by decide) (fun c => ?_) (fun c => ?_)
                                                                        · replace hh := (if_pos c).symm.trans hh
                                                                          refine v_iinc (v := _ + (6 : Int32)) 3 dL_law_1641 rfl rfl (by decide) rfl ?_
                                                                          replace hh := lt_of hh
                                                                          refine v_goto (tgt := 18) dL_law_1644 (by decide) ?_
                                                                          exact v_sub [1, 2, 3, 0] rfl (ih (cc0) (ss0) (by omega) (by omega) _ _ hh)
                                                                        · replace hh := (if_neg c).symm.trans hh
                                                                          refine v_iconst dL_law_1137 (by decide : _ = (0 : Int32)) ?_
                                                                          obtain rfl := Option.some.inj hh
                                                                          exact v_zret dL_law_1138 rfl (zb (by decide)).1 (by show _ ≤ 600000; omega) (by show _ ≤ 7302249; omega) ⟨rfl, rfl⟩
                                                                      · skip
                                                                        refine sw_if hh (fun c33 hh => ?_) (fun c33 hh => ?_)
                                                                        · skip
                                                                          refine v_tableIn (tgt := 1139) dL_law_33 (by rw [c33]; decide) (by rw [c33]; decide) (by rw [c33] <;> rfl) (by decide) ?_
                                                                          refine v_aload_n 1 dL_law_1139 rfl rfl ?_
                                                                          refine v_aload_n 0 dL_law_1140 rfl rfl ?_
                                                                          refine v_iload_n 3 dL_law_1141 rfl rfl ?_
                                                                          refine v_iconst dL_law_1142 (by decide : _ = (1 : Int32)) ?_
                                                                          refine v_iadd dL_law_1143 ?_
                                                                          obtain ⟨g212, hh⟩ := chk_some hh
                                                                          replace g212 := inb_in g212
                                                                          refine v_sld dL_law_1144 g212 ?_
                                                                          refine v_aload_n 0 dL_law_1145 rfl rfl ?_
                                                                          refine v_iload_n 3 dL_law_1146 rfl rfl ?_
                                                                          refine v_iconst dL_law_1147 (by decide : _ = (2 : Int32)) ?_
                                                                          refine v_iadd dL_law_1148 ?_
                                                                          obtain ⟨g213, hh⟩ := chk_some hh
                                                                          replace g213 := inb_in g213
                                                                          refine v_sld dL_law_1149 g213 ?_
                                                                          obtain ⟨q214, eq214, hh⟩ := bnd_some hh
                                                                          refine v_callVi (t_X9_shared eq214) dL_law_1150 y_X9_shared ml_L_154 (ci := 8) rfl rfl (e_RolledOut) rfl rfl (Nat.le_of_ble_eq_true rfl) ⟨(Nat.le_of_ble_eq_true rfl), (Nat.le_of_ble_eq_true rfl)⟩ ⟨by show _ ≤ 600000; omega, by show _ ≤ 7302249; omega⟩ ?_
                                                                          refine v_aload_n 2 dL_law_1153 rfl rfl ?_
                                                                          refine v_aload_n 0 dL_law_1154 rfl rfl ?_
                                                                          refine v_iload_n 3 dL_law_1155 rfl rfl ?_
                                                                          refine v_iconst dL_law_1156 (by decide : _ = (1 : Int32)) ?_
                                                                          refine v_iadd dL_law_1157 ?_
                                                                          obtain ⟨g215, hh⟩ := chk_some hh
                                                                          replace g215 := inb_in g215
                                                                          refine v_sld dL_law_1158 g215 ?_
                                                                          refine v_aload_n 0 dL_law_1159 rfl rfl ?_
                                                                          refine v_iload_n 3 dL_law_1160 rfl rfl ?_
                                                                          refine v_iconst dL_law_1161 (by decide : _ = (2 : Int32)) ?_
                                                                          refine v_iadd dL_law_1162 ?_
                                                                          obtain ⟨g216, hh⟩ := chk_some hh
                                                                          replace g216 := inb_in g216
                                                                          refine v_sld dL_law_1163 g216 ?_
                                                                          obtain ⟨q217, eq217, hh⟩ := bnd_some hh
                                                                          refine v_callVi (t_X10_shared eq217) dL_law_1164 y_X10_shared ml_L_157 (ci := 9) rfl rfl (e_Model) rfl rfl (Nat.le_of_ble_eq_true rfl) ⟨(Nat.le_of_ble_eq_true rfl), (Nat.le_of_ble_eq_true rfl)⟩ ⟨by show _ ≤ 600000; omega, by show _ ≤ 7302249; omega⟩ ?_
                                                                          refine v_icmp_eq (tgt := 1641) dL_law_1167 (by decide) (fun c => ?_) (fun c => ?_)
                                                                          · replace hh := (if_pos c).symm.trans hh
                                                                            refine v_iinc (v := _ + (6 : Int32)) 3 dL_law_1641 rfl rfl (by decide) rfl ?_
                                                                            replace hh := lt_of hh
                                                                            refine v_goto (tgt := 18) dL_law_1644 (by decide) ?_
                                                                            exact v_sub [1, 2, 3, 0] rfl (ih (cc0) (ss0) (by omega) (by omega) _ _ hh)
                                                                          · replace hh := (if_neg c).symm.trans hh
                                                                            refine v_iconst dL_law_1170 (by decide : _ = (0 : Int32)) ?_
                                                                            obtain rfl := Option.some.inj hh
                                                                            exact v_zret dL_law_1171 rfl (zb (by decide)).1 (by show _ ≤ 600000; omega) (by show _ ≤ 7302249; omega) ⟨rfl, rfl⟩
                                                                        · skip
                                                                          refine sw_if hh (fun c34 hh => ?_) (fun c34 hh => ?_)
                                                                          · skip
                                                                            refine v_tableIn (tgt := 1172) dL_law_33 (by rw [c34]; decide) (by rw [c34]; decide) (by rw [c34] <;> rfl) (by decide) ?_
                                                                            refine v_aload_n 1 dL_law_1172 rfl rfl ?_
                                                                            refine v_aload_n 0 dL_law_1173 rfl rfl ?_
                                                                            refine v_iload_n 3 dL_law_1174 rfl rfl ?_
                                                                            refine v_iconst dL_law_1175 (by decide : _ = (1 : Int32)) ?_
                                                                            refine v_iadd dL_law_1176 ?_
                                                                            obtain ⟨g219, hh⟩ := chk_some hh
                                                                            replace g219 := inb_in g219
                                                                            refine v_sld dL_law_1177 g219 ?_
                                                                            refine v_aload_n 0 dL_law_1178 rfl rfl ?_
                                                                            refine v_iload_n 3 dL_law_1179 rfl rfl ?_
                                                                            refine v_iconst dL_law_1180 (by decide : _ = (2 : Int32)) ?_
                                                                            refine v_iadd dL_law_1181 ?_
                                                                            obtain ⟨g220, hh⟩ := chk_some hh
                                                                            replace g220 := inb_in g220
                                                                            refine v_sld dL_law_1182 g220 ?_
                                                                            obtain ⟨q221, eq221, hh⟩ := bnd_some hh
                                                                            refine v_callVi (t_X9_ends eq221) dL_law_1183 y_X9_ends ml_L_158 (ci := 8) rfl rfl (e_RolledOut) rfl rfl (Nat.le_of_ble_eq_true rfl) ⟨(Nat.le_of_ble_eq_true rfl), (Nat.le_of_ble_eq_true rfl)⟩ ⟨by show _ ≤ 600000; omega, by show _ ≤ 7302249; omega⟩ ?_
                                                                            refine v_aload_n 2 dL_law_1186 rfl rfl ?_
                                                                            refine v_aload_n 0 dL_law_1187 rfl rfl ?_
                                                                            refine v_iload_n 3 dL_law_1188 rfl rfl ?_
                                                                            refine v_iconst dL_law_1189 (by decide : _ = (1 : Int32)) ?_
                                                                            refine v_iadd dL_law_1190 ?_
                                                                            obtain ⟨g222, hh⟩ := chk_some hh
                                                                            replace g222 := inb_in g222
                                                                            refine v_sld dL_law_1191 g222 ?_
                                                                            refine v_aload_n 0 dL_law_1192 rfl rfl ?_
                                                                            refine v_iload_n 3 dL_law_1193 rfl rfl ?_
                                                                            refine v_iconst dL_law_1194 (by decide : _ = (2 : Int32)) ?_
                                                                            refine v_iadd dL_law_1195 ?_
                                                                            obtain ⟨g223, hh⟩ := chk_some hh
                                                                            replace g223 := inb_in g223
                                                                            refine v_sld dL_law_1196 g223 ?_
                                                                            obtain ⟨q224, eq224, hh⟩ := bnd_some hh
                                                                            refine v_callVi (t_X10_ends eq224) dL_law_1197 y_X10_ends ml_L_161 (ci := 9) rfl rfl (e_Model) rfl rfl (Nat.le_of_ble_eq_true rfl) ⟨(Nat.le_of_ble_eq_true rfl), (Nat.le_of_ble_eq_true rfl)⟩ ⟨by show _ ≤ 600000; omega, by show _ ≤ 7302249; omega⟩ ?_
                                                                            refine v_icmp_eq (tgt := 1641) dL_law_1200 (by decide) (fun c => ?_) (fun c => ?_)
                                                                            · replace hh := (if_pos c).symm.trans hh
                                                                              refine v_iinc (v := _ + (6 : Int32)) 3 dL_law_1641 rfl rfl (by decide) rfl ?_
                                                                              replace hh := lt_of hh
                                                                              refine v_goto (tgt := 18) dL_law_1644 (by decide) ?_
                                                                              exact v_sub [1, 2, 3, 0] rfl (ih (cc0) (ss0) (by omega) (by omega) _ _ hh)
                                                                            · replace hh := (if_neg c).symm.trans hh
                                                                              refine v_iconst dL_law_1203 (by decide : _ = (0 : Int32)) ?_
                                                                              obtain rfl := Option.some.inj hh
                                                                              exact v_zret dL_law_1204 rfl (zb (by decide)).1 (by show _ ≤ 600000; omega) (by show _ ≤ 7302249; omega) ⟨rfl, rfl⟩
                                                                          · skip
                                                                            refine sw_if hh (fun c35 hh => ?_) (fun c35 hh => ?_)
                                                                            · skip
                                                                              refine v_tableIn (tgt := 1205) dL_law_33 (by rw [c35]; decide) (by rw [c35]; decide) (by rw [c35] <;> rfl) (by decide) ?_
                                                                              refine v_aload_n 1 dL_law_1205 rfl rfl ?_
                                                                              refine v_aload_n 0 dL_law_1206 rfl rfl ?_
                                                                              refine v_iload_n 3 dL_law_1207 rfl rfl ?_
                                                                              refine v_iconst dL_law_1208 (by decide : _ = (1 : Int32)) ?_
                                                                              refine v_iadd dL_law_1209 ?_
                                                                              obtain ⟨g226, hh⟩ := chk_some hh
                                                                              replace g226 := inb_in g226
                                                                              refine v_sld dL_law_1210 g226 ?_
                                                                              refine v_aload_n 0 dL_law_1211 rfl rfl ?_
                                                                              refine v_iload_n 3 dL_law_1212 rfl rfl ?_
                                                                              refine v_iconst dL_law_1213 (by decide : _ = (2 : Int32)) ?_
                                                                              refine v_iadd dL_law_1214 ?_
                                                                              obtain ⟨g227, hh⟩ := chk_some hh
                                                                              replace g227 := inb_in g227
                                                                              refine v_sld dL_law_1215 g227 ?_
                                                                              obtain ⟨q228, eq228, hh⟩ := bnd_some hh
                                                                              refine v_callVi (t_X9_endsFirst eq228) dL_law_1216 y_X9_endsFirst ml_L_162 (ci := 8) rfl rfl (e_RolledOut) rfl rfl (Nat.le_of_ble_eq_true rfl) ⟨(Nat.le_of_ble_eq_true rfl), (Nat.le_of_ble_eq_true rfl)⟩ ⟨by show _ ≤ 600000; omega, by show _ ≤ 7302249; omega⟩ ?_
                                                                              refine v_aload_n 2 dL_law_1219 rfl rfl ?_
                                                                              refine v_aload_n 0 dL_law_1220 rfl rfl ?_
                                                                              refine v_iload_n 3 dL_law_1221 rfl rfl ?_
                                                                              refine v_iconst dL_law_1222 (by decide : _ = (1 : Int32)) ?_
                                                                              refine v_iadd dL_law_1223 ?_
                                                                              obtain ⟨g229, hh⟩ := chk_some hh
                                                                              replace g229 := inb_in g229
                                                                              refine v_sld dL_law_1224 g229 ?_
                                                                              refine v_aload_n 0 dL_law_1225 rfl rfl ?_
                                                                              refine v_iload_n 3 dL_law_1226 rfl rfl ?_
                                                                              refine v_iconst dL_law_1227 (by decide : _ = (2 : Int32)) ?_
                                                                              refine v_iadd dL_law_1228 ?_
                                                                              obtain ⟨g230, hh⟩ := chk_some hh
                                                                              replace g230 := inb_in g230
                                                                              refine v_sld dL_law_1229 g230 ?_
                                                                              obtain ⟨q231, eq231, hh⟩ := bnd_some hh
                                                                              refine v_callVi (t_X10_endsFirst eq231) dL_law_1230 y_X10_endsFirst ml_L_165 (ci := 9) rfl rfl (e_Model) rfl rfl (Nat.le_of_ble_eq_true rfl) ⟨(Nat.le_of_ble_eq_true rfl), (Nat.le_of_ble_eq_true rfl)⟩ ⟨by show _ ≤ 600000; omega, by show _ ≤ 7302249; omega⟩ ?_
                                                                              refine v_icmp_eq (tgt := 1641) dL_law_1233 (by decide) (fun c => ?_) (fun c => ?_)
                                                                              · replace hh := (if_pos c).symm.trans hh
                                                                                refine v_iinc (v := _ + (6 : Int32)) 3 dL_law_1641 rfl rfl (by decide) rfl ?_
                                                                                replace hh := lt_of hh
                                                                                refine v_goto (tgt := 18) dL_law_1644 (by decide) ?_
                                                                                exact v_sub [1, 2, 3, 0] rfl (ih (cc0) (ss0) (by omega) (by omega) _ _ hh)
                                                                              · replace hh := (if_neg c).symm.trans hh
                                                                                refine v_iconst dL_law_1236 (by decide : _ = (0 : Int32)) ?_
                                                                                obtain rfl := Option.some.inj hh
                                                                                exact v_zret dL_law_1237 rfl (zb (by decide)).1 (by show _ ≤ 600000; omega) (by show _ ≤ 7302249; omega) ⟨rfl, rfl⟩
                                                                            · skip
                                                                              refine sw_if hh (fun c36 hh => ?_) (fun c36 hh => ?_)
                                                                              · skip
                                                                                refine v_tableIn (tgt := 1238) dL_law_33 (by rw [c36]; decide) (by rw [c36]; decide) (by rw [c36] <;> rfl) (by decide) ?_
                                                                                refine v_aload_n 1 dL_law_1238 rfl rfl ?_
                                                                                refine v_aload_n 0 dL_law_1239 rfl rfl ?_
                                                                                refine v_iload_n 3 dL_law_1240 rfl rfl ?_
                                                                                refine v_iconst dL_law_1241 (by decide : _ = (1 : Int32)) ?_
                                                                                refine v_iadd dL_law_1242 ?_
                                                                                obtain ⟨g233, hh⟩ := chk_some hh
                                                                                replace g233 := inb_in g233
                                                                                refine v_sld dL_law_1243 g233 ?_
                                                                                refine v_aload_n 0 dL_law_1244 rfl rfl ?_
                                                                                refine v_iload_n 3 dL_law_1245 rfl rfl ?_
                                                                                refine v_iconst dL_law_1246 (by decide : _ = (2 : Int32)) ?_
                                                                                refine v_iadd dL_law_1247 ?_
                                                                                obtain ⟨g234, hh⟩ := chk_some hh
                                                                                replace g234 := inb_in g234
                                                                                refine v_sld dL_law_1248 g234 ?_
                                                                                refine v_aload_n 0 dL_law_1249 rfl rfl ?_
                                                                                refine v_iload_n 3 dL_law_1250 rfl rfl ?_
                                                                                refine v_iconst dL_law_1251 (by decide : _ = (3 : Int32)) ?_
                                                                                refine v_iadd dL_law_1252 ?_
                                                                                obtain ⟨g235, hh⟩ := chk_some hh
                                                                                replace g235 := inb_in g235
                                                                                refine v_sld dL_law_1253 g235 ?_
                                                                                refine v_if_eq (tgt := 1261) dL_law_1254 (by decide) (fun c => ?_) (fun c => ?_)
                                                                                · replace hh := (if_pos c).symm.trans hh
                                                                                  refine v_iconst dL_law_1261 (by decide : _ = (0 : Int32)) ?_
                                                                                  obtain ⟨q236, eq236, hh⟩ := bnd_some hh
                                                                                  refine v_callVi (t_X9_patches eq236) dL_law_1262 y_X9_patches ml_L_166 (ci := 8) rfl rfl (e_RolledOut) rfl rfl (Nat.le_of_ble_eq_true rfl) ⟨(Nat.le_of_ble_eq_true rfl), (Nat.le_of_ble_eq_true rfl)⟩ ⟨by show _ ≤ 600000; omega, by show _ ≤ 7302249; omega⟩ ?_
                                                                                  refine v_aload_n 2 dL_law_1265 rfl rfl ?_
                                                                                  refine v_aload_n 0 dL_law_1266 rfl rfl ?_
                                                                                  refine v_iload_n 3 dL_law_1267 rfl rfl ?_
                                                                                  refine v_iconst dL_law_1268 (by decide : _ = (1 : Int32)) ?_
                                                                                  refine v_iadd dL_law_1269 ?_
                                                                                  obtain ⟨g237, hh⟩ := chk_some hh
                                                                                  replace g237 := inb_in g237
                                                                                  refine v_sld dL_law_1270 g237 ?_
                                                                                  refine v_aload_n 0 dL_law_1271 rfl rfl ?_
                                                                                  refine v_iload_n 3 dL_law_1272 rfl rfl ?_
                                                                                  refine v_iconst dL_law_1273 (by decide : _ = (2 : Int32)) ?_
                                                                                  refine v_iadd dL_law_1274 ?_
                                                                                  obtain ⟨g238, hh⟩ := chk_some hh
                                                                                  replace g238 := inb_in g238
                                                                                  refine v_sld dL_law_1275 g238 ?_
                                                                                  refine v_aload_n 0 dL_law_1276 rfl rfl ?_
                                                                                  refine v_iload_n 3 dL_law_1277 rfl rfl ?_
                                                                                  refine v_iconst dL_law_1278 (by decide : _ = (3 : Int32)) ?_
                                                                                  refine v_iadd dL_law_1279 ?_
                                                                                  obtain ⟨g239, hh⟩ := chk_some hh
                                                                                  replace g239 := inb_in g239
                                                                                  refine v_sld dL_law_1280 g239 ?_
                                                                                  refine v_if_eq (tgt := 1288) dL_law_1281 (by decide) (fun c => ?_) (fun c => ?_)
                                                                                  · replace hh := (if_pos c).symm.trans hh
                                                                                    refine v_iconst dL_law_1288 (by decide : _ = (0 : Int32)) ?_
                                                                                    obtain ⟨q240, eq240, hh⟩ := bnd_some hh
                                                                                    refine v_callVi (t_X10_patches eq240) dL_law_1289 y_X10_patches ml_L_169 (ci := 9) rfl rfl (e_Model) rfl rfl (Nat.le_of_ble_eq_true rfl) ⟨(Nat.le_of_ble_eq_true rfl), (Nat.le_of_ble_eq_true rfl)⟩ ⟨by show _ ≤ 600000; omega, by show _ ≤ 7302249; omega⟩ ?_
                                                                                    refine v_icmp_eq (tgt := 1641) dL_law_1292 (by decide) (fun c => ?_) (fun c => ?_)
                                                                                    · replace hh := (if_pos c).symm.trans hh
                                                                                      refine v_iinc (v := _ + (6 : Int32)) 3 dL_law_1641 rfl rfl (by decide) rfl ?_
                                                                                      replace hh := lt_of hh
                                                                                      refine v_goto (tgt := 18) dL_law_1644 (by decide) ?_
                                                                                      exact v_sub [1, 2, 3, 0] rfl (ih (cc0) (ss0) (by omega) (by omega) _ _ hh)
                                                                                    · replace hh := (if_neg c).symm.trans hh
                                                                                      refine v_iconst dL_law_1295 (by decide : _ = (0 : Int32)) ?_
                                                                                      obtain rfl := Option.some.inj hh
                                                                                      exact v_zret dL_law_1296 rfl (zb (by decide)).1 (by show _ ≤ 600000; omega) (by show _ ≤ 7302249; omega) ⟨rfl, rfl⟩
                                                                                  · replace hh := (if_neg c).symm.trans hh
                                                                                    refine v_iconst dL_law_1284 (by decide : _ = (1 : Int32)) ?_
                                                                                    refine v_goto (tgt := 1289) dL_law_1285 (by decide) ?_
                                                                                    obtain ⟨q242, eq242, hh⟩ := bnd_some hh
                                                                                    refine v_callVi (t_X10_patches eq242) dL_law_1289 y_X10_patches ml_L_169 (ci := 9) rfl rfl (e_Model) rfl rfl (Nat.le_of_ble_eq_true rfl) ⟨(Nat.le_of_ble_eq_true rfl), (Nat.le_of_ble_eq_true rfl)⟩ ⟨by show _ ≤ 600000; omega, by show _ ≤ 7302249; omega⟩ ?_
                                                                                    refine v_icmp_eq (tgt := 1641) dL_law_1292 (by decide) (fun c => ?_) (fun c => ?_)
                                                                                    · replace hh := (if_pos c).symm.trans hh
                                                                                      refine v_iinc (v := _ + (6 : Int32)) 3 dL_law_1641 rfl rfl (by decide) rfl ?_
                                                                                      replace hh := lt_of hh
                                                                                      refine v_goto (tgt := 18) dL_law_1644 (by decide) ?_
                                                                                      exact v_sub [1, 2, 3, 0] rfl (ih (cc0) (ss0) (by omega) (by omega) _ _ hh)
                                                                                    · replace hh := (if_neg c).symm.trans hh
                                                                                      refine v_iconst dL_law_1295 (by decide : _ = (0 : Int32)) ?_
                                                                                      obtain rfl := Option.some.inj hh
                                                                                      exact v_zret dL_law_1296 rfl (zb (by decide)).1 (by show _ ≤ 600000; omega) (by show _ ≤ 7302249; omega) ⟨rfl, rfl⟩
                                                                                · replace hh := (if_neg c).symm.trans hh
                                                                                  refine v_iconst dL_law_1257 (by decide : _ = (1 : Int32)) ?_
                                                                                  refine v_goto (tgt := 1262) dL_law_1258 (by decide) ?_
                                                                                  obtain ⟨q244, eq244, hh⟩ := bnd_some hh
                                                                                  refine v_callVi (t_X9_patches eq244) dL_law_1262 y_X9_patches ml_L_166 (ci := 8) rfl rfl (e_RolledOut) rfl rfl (Nat.le_of_ble_eq_true rfl) ⟨(Nat.le_of_ble_eq_true rfl), (Nat.le_of_ble_eq_true rfl)⟩ ⟨by show _ ≤ 600000; omega, by show _ ≤ 7302249; omega⟩ ?_
                                                                                  refine v_aload_n 2 dL_law_1265 rfl rfl ?_
                                                                                  refine v_aload_n 0 dL_law_1266 rfl rfl ?_
                                                                                  refine v_iload_n 3 dL_law_1267 rfl rfl ?_
                                                                                  refine v_iconst dL_law_1268 (by decide : _ = (1 : Int32)) ?_
                                                                                  refine v_iadd dL_law_1269 ?_
                                                                                  obtain ⟨g245, hh⟩ := chk_some hh
                                                                                  replace g245 := inb_in g245
                                                                                  refine v_sld dL_law_1270 g245 ?_
                                                                                  refine v_aload_n 0 dL_law_1271 rfl rfl ?_
                                                                                  refine v_iload_n 3 dL_law_1272 rfl rfl ?_
                                                                                  refine v_iconst dL_law_1273 (by decide : _ = (2 : Int32)) ?_
                                                                                  refine v_iadd dL_law_1274 ?_
                                                                                  obtain ⟨g246, hh⟩ := chk_some hh
                                                                                  replace g246 := inb_in g246
                                                                                  refine v_sld dL_law_1275 g246 ?_
                                                                                  refine v_aload_n 0 dL_law_1276 rfl rfl ?_
                                                                                  refine v_iload_n 3 dL_law_1277 rfl rfl ?_
                                                                                  refine v_iconst dL_law_1278 (by decide : _ = (3 : Int32)) ?_
                                                                                  refine v_iadd dL_law_1279 ?_
                                                                                  obtain ⟨g247, hh⟩ := chk_some hh
                                                                                  replace g247 := inb_in g247
                                                                                  refine v_sld dL_law_1280 g247 ?_
                                                                                  refine v_if_eq (tgt := 1288) dL_law_1281 (by decide) (fun c => ?_) (fun c => ?_)
                                                                                  · replace hh := (if_pos c).symm.trans hh
                                                                                    refine v_iconst dL_law_1288 (by decide : _ = (0 : Int32)) ?_
                                                                                    obtain ⟨q248, eq248, hh⟩ := bnd_some hh
                                                                                    refine v_callVi (t_X10_patches eq248) dL_law_1289 y_X10_patches ml_L_169 (ci := 9) rfl rfl (e_Model) rfl rfl (Nat.le_of_ble_eq_true rfl) ⟨(Nat.le_of_ble_eq_true rfl), (Nat.le_of_ble_eq_true rfl)⟩ ⟨by show _ ≤ 600000; omega, by show _ ≤ 7302249; omega⟩ ?_
                                                                                    refine v_icmp_eq (tgt := 1641) dL_law_1292 (by decide) (fun c => ?_) (fun c => ?_)
                                                                                    · replace hh := (if_pos c).symm.trans hh
                                                                                      refine v_iinc (v := _ + (6 : Int32)) 3 dL_law_1641 rfl rfl (by decide) rfl ?_
                                                                                      replace hh := lt_of hh
                                                                                      refine v_goto (tgt := 18) dL_law_1644 (by decide) ?_
                                                                                      exact v_sub [1, 2, 3, 0] rfl (ih (cc0) (ss0) (by omega) (by omega) _ _ hh)
                                                                                    · replace hh := (if_neg c).symm.trans hh
                                                                                      refine v_iconst dL_law_1295 (by decide : _ = (0 : Int32)) ?_
                                                                                      obtain rfl := Option.some.inj hh
                                                                                      exact v_zret dL_law_1296 rfl (zb (by decide)).1 (by show _ ≤ 600000; omega) (by show _ ≤ 7302249; omega) ⟨rfl, rfl⟩
                                                                                  · replace hh := (if_neg c).symm.trans hh
                                                                                    refine v_iconst dL_law_1284 (by decide : _ = (1 : Int32)) ?_
                                                                                    refine v_goto (tgt := 1289) dL_law_1285 (by decide) ?_
                                                                                    obtain ⟨q250, eq250, hh⟩ := bnd_some hh
                                                                                    refine v_callVi (t_X10_patches eq250) dL_law_1289 y_X10_patches ml_L_169 (ci := 9) rfl rfl (e_Model) rfl rfl (Nat.le_of_ble_eq_true rfl) ⟨(Nat.le_of_ble_eq_true rfl), (Nat.le_of_ble_eq_true rfl)⟩ ⟨by show _ ≤ 600000; omega, by show _ ≤ 7302249; omega⟩ ?_
                                                                                    refine v_icmp_eq (tgt := 1641) dL_law_1292 (by decide) (fun c => ?_) (fun c => ?_)
                                                                                    · replace hh := (if_pos c).symm.trans hh
                                                                                      refine v_iinc (v := _ + (6 : Int32)) 3 dL_law_1641 rfl rfl (by decide) rfl ?_
                                                                                      replace hh := lt_of hh
                                                                                      refine v_goto (tgt := 18) dL_law_1644 (by decide) ?_
                                                                                      exact v_sub [1, 2, 3, 0] rfl (ih (cc0) (ss0) (by omega) (by omega) _ _ hh)
                                                                                    · replace hh := (if_neg c).symm.trans hh
                                                                                      refine v_iconst dL_law_1295 (by decide : _ = (0 : Int32)) ?_
                                                                                      obtain rfl := Option.some.inj hh
                                                                                      exact v_zret dL_law_1296 rfl (zb (by decide)).1 (by show _ ≤ 600000; omega) (by show _ ≤ 7302249; omega) ⟨rfl, rfl⟩
                                                                              · skip
                                                                                refine sw_if hh (fun c37 hh => ?_) (fun c37 hh => ?_)
                                                                                · skip
                                                                                  refine v_tableIn (tgt := 1297) dL_law_33 (by rw [c37]; decide) (by rw [c37]; decide) (by rw [c37] <;> rfl) (by decide) ?_
                                                                                  refine v_aload_n 1 dL_law_1297 rfl rfl ?_
                                                                                  refine v_aload_n 0 dL_law_1298 rfl rfl ?_
                                                                                  refine v_iload_n 3 dL_law_1299 rfl rfl ?_
                                                                                  refine v_iconst dL_law_1300 (by decide : _ = (1 : Int32)) ?_
                                                                                  refine v_iadd dL_law_1301 ?_
                                                                                  obtain ⟨g252, hh⟩ := chk_some hh
                                                                                  replace g252 := inb_in g252
                                                                                  refine v_sld dL_law_1302 g252 ?_
                                                                                  refine v_aload_n 0 dL_law_1303 rfl rfl ?_
                                                                                  refine v_iload_n 3 dL_law_1304 rfl rfl ?_
                                                                                  refine v_iconst dL_law_1305 (by decide : _ = (2 : Int32)) ?_
                                                                                  refine v_iadd dL_law_1306 ?_
                                                                                  obtain ⟨g253, hh⟩ := chk_some hh
                                                                                  replace g253 := inb_in g253
                                                                                  refine v_sld dL_law_1307 g253 ?_
                                                                                  refine v_aload_n 0 dL_law_1308 rfl rfl ?_
                                                                                  refine v_iload_n 3 dL_law_1309 rfl rfl ?_
                                                                                  refine v_iconst dL_law_1310 (by decide : _ = (3 : Int32)) ?_
                                                                                  refine v_iadd dL_law_1311 ?_
                                                                                  obtain ⟨g254, hh⟩ := chk_some hh
                                                                                  replace g254 := inb_in g254
                                                                                  refine v_sld dL_law_1312 g254 ?_
                                                                                  obtain ⟨q255, eq255, hh⟩ := bnd_some hh
                                                                                  refine v_callVi (t_X9_plan eq255) dL_law_1313 y_X9_plan ml_L_170 (ci := 8) rfl rfl (e_RolledOut) rfl rfl (Nat.le_of_ble_eq_true rfl) ⟨(Nat.le_of_ble_eq_true rfl), (Nat.le_of_ble_eq_true rfl)⟩ ⟨by show _ ≤ 600000; omega, by show _ ≤ 7302249; omega⟩ ?_
                                                                                  refine v_aload_n 2 dL_law_1316 rfl rfl ?_
                                                                                  refine v_aload_n 0 dL_law_1317 rfl rfl ?_
                                                                                  refine v_iload_n 3 dL_law_1318 rfl rfl ?_
                                                                                  refine v_iconst dL_law_1319 (by decide : _ = (1 : Int32)) ?_
                                                                                  refine v_iadd dL_law_1320 ?_
                                                                                  obtain ⟨g256, hh⟩ := chk_some hh
                                                                                  replace g256 := inb_in g256
                                                                                  refine v_sld dL_law_1321 g256 ?_
                                                                                  refine v_aload_n 0 dL_law_1322 rfl rfl ?_
                                                                                  refine v_iload_n 3 dL_law_1323 rfl rfl ?_
                                                                                  refine v_iconst dL_law_1324 (by decide : _ = (2 : Int32)) ?_
                                                                                  refine v_iadd dL_law_1325 ?_
                                                                                  obtain ⟨g257, hh⟩ := chk_some hh
                                                                                  replace g257 := inb_in g257
                                                                                  refine v_sld dL_law_1326 g257 ?_
                                                                                  refine v_aload_n 0 dL_law_1327 rfl rfl ?_
                                                                                  refine v_iload_n 3 dL_law_1328 rfl rfl ?_
                                                                                  refine v_iconst dL_law_1329 (by decide : _ = (3 : Int32)) ?_
                                                                                  refine v_iadd dL_law_1330 ?_
                                                                                  obtain ⟨g258, hh⟩ := chk_some hh
                                                                                  replace g258 := inb_in g258
                                                                                  refine v_sld dL_law_1331 g258 ?_
                                                                                  obtain ⟨q259, eq259, hh⟩ := bnd_some hh
                                                                                  refine v_callVi (t_X10_plan eq259) dL_law_1332 y_X10_plan ml_L_173 (ci := 9) rfl rfl (e_Model) rfl rfl (Nat.le_of_ble_eq_true rfl) ⟨(Nat.le_of_ble_eq_true rfl), (Nat.le_of_ble_eq_true rfl)⟩ ⟨by show _ ≤ 600000; omega, by show _ ≤ 7302249; omega⟩ ?_
                                                                                  refine v_icmp_eq (tgt := 1641) dL_law_1335 (by decide) (fun c => ?_) (fun c => ?_)
                                                                                  · replace hh := (if_pos c).symm.trans hh
                                                                                    refine v_iinc (v := _ + (6 : Int32)) 3 dL_law_1641 rfl rfl (by decide) rfl ?_
                                                                                    replace hh := lt_of hh
                                                                                    refine v_goto (tgt := 18) dL_law_1644 (by decide) ?_
                                                                                    exact v_sub [1, 2, 3, 0] rfl (ih (cc0) (ss0) (by omega) (by omega) _ _ hh)
                                                                                  · replace hh := (if_neg c).symm.trans hh
                                                                                    refine v_iconst dL_law_1338 (by decide : _ = (0 : Int32)) ?_
                                                                                    obtain rfl := Option.some.inj hh
                                                                                    exact v_zret dL_law_1339 rfl (zb (by decide)).1 (by show _ ≤ 600000; omega) (by show _ ≤ 7302249; omega) ⟨rfl, rfl⟩
                                                                                · skip
                                                                                  refine sw_if hh (fun c38 hh => ?_) (fun c38 hh => ?_)
                                                                                  · skip
                                                                                    refine v_tableIn (tgt := 1340) dL_law_33 (by rw [c38]; decide) (by rw [c38]; decide) (by rw [c38] <;> rfl) (by decide) ?_
                                                                                    refine v_aload_n 1 dL_law_1340 rfl rfl ?_
                                                                                    refine v_aload_n 0 dL_law_1341 rfl rfl ?_
                                                                                    refine v_iload_n 3 dL_law_1342 rfl rfl ?_
                                                                                    refine v_iconst dL_law_1343 (by decide : _ = (1 : Int32)) ?_
                                                                                    refine v_iadd dL_law_1344 ?_
                                                                                    obtain ⟨g261, hh⟩ := chk_some hh
                                                                                    replace g261 := inb_in g261
                                                                                    refine v_sld dL_law_1345 g261 ?_
                                                                                    obtain ⟨q262, eq262, hh⟩ := bnd_some hh
                                                                                    refine v_callVi (t_X9_best eq262) dL_law_1346 y_X9_best ml_L_174 (ci := 8) rfl rfl (e_RolledOut) rfl rfl (Nat.le_of_ble_eq_true rfl) ⟨(Nat.le_of_ble_eq_true rfl), (Nat.le_of_ble_eq_true rfl)⟩ ⟨by show _ ≤ 600000; omega, by show _ ≤ 7302249; omega⟩ ?_
                                                                                    refine v_aload_n 2 dL_law_1349 rfl rfl ?_
                                                                                    refine v_aload_n 0 dL_law_1350 rfl rfl ?_
                                                                                    refine v_iload_n 3 dL_law_1351 rfl rfl ?_
                                                                                    refine v_iconst dL_law_1352 (by decide : _ = (1 : Int32)) ?_
                                                                                    refine v_iadd dL_law_1353 ?_
                                                                                    obtain ⟨g263, hh⟩ := chk_some hh
                                                                                    replace g263 := inb_in g263
                                                                                    refine v_sld dL_law_1354 g263 ?_
                                                                                    obtain ⟨q264, eq264, hh⟩ := bnd_some hh
                                                                                    refine v_callVi (t_X10_best eq264) dL_law_1355 y_X10_best ml_L_177 (ci := 9) rfl rfl (e_Model) rfl rfl (Nat.le_of_ble_eq_true rfl) ⟨(Nat.le_of_ble_eq_true rfl), (Nat.le_of_ble_eq_true rfl)⟩ ⟨by show _ ≤ 600000; omega, by show _ ≤ 7302249; omega⟩ ?_
                                                                                    refine v_icmp_eq (tgt := 1641) dL_law_1358 (by decide) (fun c => ?_) (fun c => ?_)
                                                                                    · replace hh := (if_pos c).symm.trans hh
                                                                                      refine v_iinc (v := _ + (6 : Int32)) 3 dL_law_1641 rfl rfl (by decide) rfl ?_
                                                                                      replace hh := lt_of hh
                                                                                      refine v_goto (tgt := 18) dL_law_1644 (by decide) ?_
                                                                                      exact v_sub [1, 2, 3, 0] rfl (ih (cc0) (ss0) (by omega) (by omega) _ _ hh)
                                                                                    · replace hh := (if_neg c).symm.trans hh
                                                                                      refine v_iconst dL_law_1361 (by decide : _ = (0 : Int32)) ?_
                                                                                      obtain rfl := Option.some.inj hh
                                                                                      exact v_zret dL_law_1362 rfl (zb (by decide)).1 (by show _ ≤ 600000; omega) (by show _ ≤ 7302249; omega) ⟨rfl, rfl⟩
                                                                                  · skip
                                                                                    refine sw_if hh (fun c39 hh => ?_) (fun c39 hh => ?_)
                                                                                    · skip
                                                                                      refine v_tableIn (tgt := 1363) dL_law_33 (by rw [c39]; decide) (by rw [c39]; decide) (by rw [c39] <;> rfl) (by decide) ?_
                                                                                      refine v_aload_n 1 dL_law_1363 rfl rfl ?_
                                                                                      refine v_aload_n 0 dL_law_1364 rfl rfl ?_
                                                                                      refine v_iload_n 3 dL_law_1365 rfl rfl ?_
                                                                                      refine v_iconst dL_law_1366 (by decide : _ = (1 : Int32)) ?_
                                                                                      refine v_iadd dL_law_1367 ?_
                                                                                      obtain ⟨g266, hh⟩ := chk_some hh
                                                                                      replace g266 := inb_in g266
                                                                                      refine v_sld dL_law_1368 g266 ?_
                                                                                      refine v_aload_n 0 dL_law_1369 rfl rfl ?_
                                                                                      refine v_iload_n 3 dL_law_1370 rfl rfl ?_
                                                                                      refine v_iconst dL_law_1371 (by decide : _ = (2 : Int32)) ?_
                                                                                      refine v_iadd dL_law_1372 ?_
                                                                                      obtain ⟨g267, hh⟩ := chk_some hh
                                                                                      replace g267 := inb_in g267
                                                                                      refine v_sld dL_law_1373 g267 ?_
                                                                                      refine v_if_eq (tgt := 1381) dL_law_1374 (by decide) (fun c => ?_) (fun c => ?_)
                                                                                      · replace hh := (if_pos c).symm.trans hh
                                                                                        refine v_iconst dL_law_1381 (by decide : _ = (0 : Int32)) ?_
                                                                                        obtain ⟨q268, eq268, hh⟩ := bnd_some hh
                                                                                        refine v_callVi (t_X9_which eq268) dL_law_1382 y_X9_which ml_L_178 (ci := 8) rfl rfl (e_RolledOut) rfl rfl (Nat.le_of_ble_eq_true rfl) ⟨(Nat.le_of_ble_eq_true rfl), (Nat.le_of_ble_eq_true rfl)⟩ ⟨by show _ ≤ 600000; omega, by show _ ≤ 7302249; omega⟩ ?_
                                                                                        refine v_aload_n 2 dL_law_1385 rfl rfl ?_
                                                                                        refine v_aload_n 0 dL_law_1386 rfl rfl ?_
                                                                                        refine v_iload_n 3 dL_law_1387 rfl rfl ?_
                                                                                        refine v_iconst dL_law_1388 (by decide : _ = (1 : Int32)) ?_
                                                                                        refine v_iadd dL_law_1389 ?_
                                                                                        obtain ⟨g269, hh⟩ := chk_some hh
                                                                                        replace g269 := inb_in g269
                                                                                        refine v_sld dL_law_1390 g269 ?_
                                                                                        refine v_aload_n 0 dL_law_1391 rfl rfl ?_
                                                                                        refine v_iload_n 3 dL_law_1392 rfl rfl ?_
                                                                                        refine v_iconst dL_law_1393 (by decide : _ = (2 : Int32)) ?_
                                                                                        refine v_iadd dL_law_1394 ?_
                                                                                        obtain ⟨g270, hh⟩ := chk_some hh
                                                                                        replace g270 := inb_in g270
                                                                                        refine v_sld dL_law_1395 g270 ?_
                                                                                        refine v_if_eq (tgt := 1403) dL_law_1396 (by decide) (fun c => ?_) (fun c => ?_)
                                                                                        · replace hh := (if_pos c).symm.trans hh
                                                                                          refine v_iconst dL_law_1403 (by decide : _ = (0 : Int32)) ?_
                                                                                          obtain ⟨q271, eq271, hh⟩ := bnd_some hh
                                                                                          refine v_callVi (t_X10_which eq271) dL_law_1404 y_X10_which ml_L_181 (ci := 9) rfl rfl (e_Model) rfl rfl (Nat.le_of_ble_eq_true rfl) ⟨(Nat.le_of_ble_eq_true rfl), (Nat.le_of_ble_eq_true rfl)⟩ ⟨by show _ ≤ 600000; omega, by show _ ≤ 7302249; omega⟩ ?_
                                                                                          refine v_icmp_eq (tgt := 1641) dL_law_1407 (by decide) (fun c => ?_) (fun c => ?_)
                                                                                          · replace hh := (if_pos c).symm.trans hh
                                                                                            refine v_iinc (v := _ + (6 : Int32)) 3 dL_law_1641 rfl rfl (by decide) rfl ?_
                                                                                            replace hh := lt_of hh
                                                                                            refine v_goto (tgt := 18) dL_law_1644 (by decide) ?_
                                                                                            exact v_sub [1, 2, 3, 0] rfl (ih (cc0) (ss0) (by omega) (by omega) _ _ hh)
                                                                                          · replace hh := (if_neg c).symm.trans hh
                                                                                            refine v_iconst dL_law_1410 (by decide : _ = (0 : Int32)) ?_
                                                                                            obtain rfl := Option.some.inj hh
                                                                                            exact v_zret dL_law_1411 rfl (zb (by decide)).1 (by show _ ≤ 600000; omega) (by show _ ≤ 7302249; omega) ⟨rfl, rfl⟩
                                                                                        · replace hh := (if_neg c).symm.trans hh
                                                                                          refine v_iconst dL_law_1399 (by decide : _ = (1 : Int32)) ?_
                                                                                          refine v_goto (tgt := 1404) dL_law_1400 (by decide) ?_
                                                                                          obtain ⟨q273, eq273, hh⟩ := bnd_some hh
                                                                                          refine v_callVi (t_X10_which eq273) dL_law_1404 y_X10_which ml_L_181 (ci := 9) rfl rfl (e_Model) rfl rfl (Nat.le_of_ble_eq_true rfl) ⟨(Nat.le_of_ble_eq_true rfl), (Nat.le_of_ble_eq_true rfl)⟩ ⟨by show _ ≤ 600000; omega, by show _ ≤ 7302249; omega⟩ ?_
                                                                                          refine v_icmp_eq (tgt := 1641) dL_law_1407 (by decide) (fun c => ?_) (fun c => ?_)
                                                                                          · replace hh := (if_pos c).symm.trans hh
                                                                                            refine v_iinc (v := _ + (6 : Int32)) 3 dL_law_1641 rfl rfl (by decide) rfl ?_
                                                                                            replace hh := lt_of hh
                                                                                            refine v_goto (tgt := 18) dL_law_1644 (by decide) ?_
                                                                                            exact v_sub [1, 2, 3, 0] rfl (ih (cc0) (ss0) (by omega) (by omega) _ _ hh)
                                                                                          · replace hh := (if_neg c).symm.trans hh
                                                                                            refine v_iconst dL_law_1410 (by decide : _ = (0 : Int32)) ?_
                                                                                            obtain rfl := Option.some.inj hh
                                                                                            exact v_zret dL_law_1411 rfl (zb (by decide)).1 (by show _ ≤ 600000; omega) (by show _ ≤ 7302249; omega) ⟨rfl, rfl⟩
                                                                                      · replace hh := (if_neg c).symm.trans hh
                                                                                        refine v_iconst dL_law_1377 (by decide : _ = (1 : Int32)) ?_
                                                                                        refine v_goto (tgt := 1382) dL_law_1378 (by decide) ?_
                                                                                        obtain ⟨q275, eq275, hh⟩ := bnd_some hh
                                                                                        refine v_callVi (t_X9_which eq275) dL_law_1382 y_X9_which ml_L_178 (ci := 8) rfl rfl (e_RolledOut) rfl rfl (Nat.le_of_ble_eq_true rfl) ⟨(Nat.le_of_ble_eq_true rfl), (Nat.le_of_ble_eq_true rfl)⟩ ⟨by show _ ≤ 600000; omega, by show _ ≤ 7302249; omega⟩ ?_
                                                                                        refine v_aload_n 2 dL_law_1385 rfl rfl ?_
                                                                                        refine v_aload_n 0 dL_law_1386 rfl rfl ?_
                                                                                        refine v_iload_n 3 dL_law_1387 rfl rfl ?_
                                                                                        refine v_iconst dL_law_1388 (by decide : _ = (1 : Int32)) ?_
                                                                                        refine v_iadd dL_law_1389 ?_
                                                                                        obtain ⟨g276, hh⟩ := chk_some hh
                                                                                        replace g276 := inb_in g276
                                                                                        refine v_sld dL_law_1390 g276 ?_
                                                                                        refine v_aload_n 0 dL_law_1391 rfl rfl ?_
                                                                                        refine v_iload_n 3 dL_law_1392 rfl rfl ?_
                                                                                        refine v_iconst dL_law_1393 (by decide : _ = (2 : Int32)) ?_
                                                                                        refine v_iadd dL_law_1394 ?_
                                                                                        obtain ⟨g277, hh⟩ := chk_some hh
                                                                                        replace g277 := inb_in g277
                                                                                        refine v_sld dL_law_1395 g277 ?_
                                                                                        refine v_if_eq (tgt := 1403) dL_law_1396 (by decide) (fun c => ?_) (fun c => ?_)
                                                                                        · replace hh := (if_pos c).symm.trans hh
                                                                                          refine v_iconst dL_law_1403 (by decide : _ = (0 : Int32)) ?_
                                                                                          obtain ⟨q278, eq278, hh⟩ := bnd_some hh
                                                                                          refine v_callVi (t_X10_which eq278) dL_law_1404 y_X10_which ml_L_181 (ci := 9) rfl rfl (e_Model) rfl rfl (Nat.le_of_ble_eq_true rfl) ⟨(Nat.le_of_ble_eq_true rfl), (Nat.le_of_ble_eq_true rfl)⟩ ⟨by show _ ≤ 600000; omega, by show _ ≤ 7302249; omega⟩ ?_
                                                                                          refine v_icmp_eq (tgt := 1641) dL_law_1407 (by decide) (fun c => ?_) (fun c => ?_)
                                                                                          · replace hh := (if_pos c).symm.trans hh
                                                                                            refine v_iinc (v := _ + (6 : Int32)) 3 dL_law_1641 rfl rfl (by decide) rfl ?_
                                                                                            replace hh := lt_of hh
                                                                                            refine v_goto (tgt := 18) dL_law_1644 (by decide) ?_
                                                                                            exact v_sub [1, 2, 3, 0] rfl (ih (cc0) (ss0) (by omega) (by omega) _ _ hh)
                                                                                          · replace hh := (if_neg c).symm.trans hh
                                                                                            refine v_iconst dL_law_1410 (by decide : _ = (0 : Int32)) ?_
                                                                                            obtain rfl := Option.some.inj hh
                                                                                            exact v_zret dL_law_1411 rfl (zb (by decide)).1 (by show _ ≤ 600000; omega) (by show _ ≤ 7302249; omega) ⟨rfl, rfl⟩
                                                                                        · replace hh := (if_neg c).symm.trans hh
                                                                                          refine v_iconst dL_law_1399 (by decide : _ = (1 : Int32)) ?_
                                                                                          refine v_goto (tgt := 1404) dL_law_1400 (by decide) ?_
                                                                                          obtain ⟨q280, eq280, hh⟩ := bnd_some hh
                                                                                          refine v_callVi (t_X10_which eq280) dL_law_1404 y_X10_which ml_L_181 (ci := 9) rfl rfl (e_Model) rfl rfl (Nat.le_of_ble_eq_true rfl) ⟨(Nat.le_of_ble_eq_true rfl), (Nat.le_of_ble_eq_true rfl)⟩ ⟨by show _ ≤ 600000; omega, by show _ ≤ 7302249; omega⟩ ?_
                                                                                          refine v_icmp_eq (tgt := 1641) dL_law_1407 (by decide) (fun c => ?_) (fun c => ?_)
                                                                                          · replace hh := (if_pos c).symm.trans hh
                                                                                            refine v_iinc (v := _ + (6 : Int32)) 3 dL_law_1641 rfl rfl (by decide) rfl ?_
                                                                                            replace hh := lt_of hh
                                                                                            refine v_goto (tgt := 18) dL_law_1644 (by decide) ?_
                                                                                            exact v_sub [1, 2, 3, 0] rfl (ih (cc0) (ss0) (by omega) (by omega) _ _ hh)
                                                                                          · replace hh := (if_neg c).symm.trans hh
                                                                                            refine v_iconst dL_law_1410 (by decide : _ = (0 : Int32)) ?_
                                                                                            obtain rfl := Option.some.inj hh
                                                                                            exact v_zret dL_law_1411 rfl (zb (by decide)).1 (by show _ ≤ 600000; omega) (by show _ ≤ 7302249; omega) ⟨rfl, rfl⟩
                                                                                    · skip
                                                                                      refine sw_if hh (fun c40 hh => ?_) (fun c40 hh => ?_)
                                                                                      · skip
                                                                                        refine v_tableIn (tgt := 1412) dL_law_33 (by rw [c40]; decide) (by rw [c40]; decide) (by rw [c40] <;> rfl) (by decide) ?_
                                                                                        refine v_aload_n 1 dL_law_1412 rfl rfl ?_
                                                                                        refine v_aload_n 0 dL_law_1413 rfl rfl ?_
                                                                                        refine v_iload_n 3 dL_law_1414 rfl rfl ?_
                                                                                        refine v_iconst dL_law_1415 (by decide : _ = (1 : Int32)) ?_
                                                                                        refine v_iadd dL_law_1416 ?_
                                                                                        obtain ⟨g282, hh⟩ := chk_some hh
                                                                                        replace g282 := inb_in g282
                                                                                        refine v_sld dL_law_1417 g282 ?_
                                                                                        refine v_aload_n 0 dL_law_1418 rfl rfl ?_
                                                                                        refine v_iload_n 3 dL_law_1419 rfl rfl ?_
                                                                                        refine v_iconst dL_law_1420 (by decide : _ = (2 : Int32)) ?_
                                                                                        refine v_iadd dL_law_1421 ?_
                                                                                        obtain ⟨g283, hh⟩ := chk_some hh
                                                                                        replace g283 := inb_in g283
                                                                                        refine v_sld dL_law_1422 g283 ?_
                                                                                        refine v_if_eq (tgt := 1430) dL_law_1423 (by decide) (fun c => ?_) (fun c => ?_)
                                                                                        · replace hh := (if_pos c).symm.trans hh
                                                                                          refine v_iconst dL_law_1430 (by decide : _ = (0 : Int32)) ?_
                                                                                          obtain ⟨q284, eq284, hh⟩ := bnd_some hh
                                                                                          refine v_callVi (t_X9_likely eq284) dL_law_1431 y_X9_likely ml_L_182 (ci := 8) rfl rfl (e_RolledOut) rfl rfl (Nat.le_of_ble_eq_true rfl) ⟨(Nat.le_of_ble_eq_true rfl), (Nat.le_of_ble_eq_true rfl)⟩ ⟨by show _ ≤ 600000; omega, by show _ ≤ 7302249; omega⟩ ?_
                                                                                          refine v_aload_n 2 dL_law_1434 rfl rfl ?_
                                                                                          refine v_aload_n 0 dL_law_1435 rfl rfl ?_
                                                                                          refine v_iload_n 3 dL_law_1436 rfl rfl ?_
                                                                                          refine v_iconst dL_law_1437 (by decide : _ = (1 : Int32)) ?_
                                                                                          refine v_iadd dL_law_1438 ?_
                                                                                          obtain ⟨g285, hh⟩ := chk_some hh
                                                                                          replace g285 := inb_in g285
                                                                                          refine v_sld dL_law_1439 g285 ?_
                                                                                          refine v_aload_n 0 dL_law_1440 rfl rfl ?_
                                                                                          refine v_iload_n 3 dL_law_1441 rfl rfl ?_
                                                                                          refine v_iconst dL_law_1442 (by decide : _ = (2 : Int32)) ?_
                                                                                          refine v_iadd dL_law_1443 ?_
                                                                                          obtain ⟨g286, hh⟩ := chk_some hh
                                                                                          replace g286 := inb_in g286
                                                                                          refine v_sld dL_law_1444 g286 ?_
                                                                                          refine v_if_eq (tgt := 1452) dL_law_1445 (by decide) (fun c => ?_) (fun c => ?_)
                                                                                          · replace hh := (if_pos c).symm.trans hh
                                                                                            refine v_iconst dL_law_1452 (by decide : _ = (0 : Int32)) ?_
                                                                                            obtain ⟨q287, eq287, hh⟩ := bnd_some hh
                                                                                            refine v_callVi (t_X10_likely eq287) dL_law_1453 y_X10_likely ml_L_185 (ci := 9) rfl rfl (e_Model) rfl rfl (Nat.le_of_ble_eq_true rfl) ⟨(Nat.le_of_ble_eq_true rfl), (Nat.le_of_ble_eq_true rfl)⟩ ⟨by show _ ≤ 600000; omega, by show _ ≤ 7302249; omega⟩ ?_
                                                                                            refine v_icmp_eq (tgt := 1641) dL_law_1456 (by decide) (fun c => ?_) (fun c => ?_)
                                                                                            · replace hh := (if_pos c).symm.trans hh
                                                                                              refine v_iinc (v := _ + (6 : Int32)) 3 dL_law_1641 rfl rfl (by decide) rfl ?_
                                                                                              replace hh := lt_of hh
                                                                                              refine v_goto (tgt := 18) dL_law_1644 (by decide) ?_
                                                                                              exact v_sub [1, 2, 3, 0] rfl (ih (cc0) (ss0) (by omega) (by omega) _ _ hh)
                                                                                            · replace hh := (if_neg c).symm.trans hh
                                                                                              refine v_iconst dL_law_1459 (by decide : _ = (0 : Int32)) ?_
                                                                                              obtain rfl := Option.some.inj hh
                                                                                              exact v_zret dL_law_1460 rfl (zb (by decide)).1 (by show _ ≤ 600000; omega) (by show _ ≤ 7302249; omega) ⟨rfl, rfl⟩
                                                                                          · replace hh := (if_neg c).symm.trans hh
                                                                                            refine v_iconst dL_law_1448 (by decide : _ = (1 : Int32)) ?_
                                                                                            refine v_goto (tgt := 1453) dL_law_1449 (by decide) ?_
                                                                                            obtain ⟨q289, eq289, hh⟩ := bnd_some hh
                                                                                            refine v_callVi (t_X10_likely eq289) dL_law_1453 y_X10_likely ml_L_185 (ci := 9) rfl rfl (e_Model) rfl rfl (Nat.le_of_ble_eq_true rfl) ⟨(Nat.le_of_ble_eq_true rfl), (Nat.le_of_ble_eq_true rfl)⟩ ⟨by show _ ≤ 600000; omega, by show _ ≤ 7302249; omega⟩ ?_
                                                                                            refine v_icmp_eq (tgt := 1641) dL_law_1456 (by decide) (fun c => ?_) (fun c => ?_)
                                                                                            · replace hh := (if_pos c).symm.trans hh
                                                                                              refine v_iinc (v := _ + (6 : Int32)) 3 dL_law_1641 rfl rfl (by decide) rfl ?_
                                                                                              replace hh := lt_of hh
                                                                                              refine v_goto (tgt := 18) dL_law_1644 (by decide) ?_
                                                                                              exact v_sub [1, 2, 3, 0] rfl (ih (cc0) (ss0) (by omega) (by omega) _ _ hh)
                                                                                            · replace hh := (if_neg c).symm.trans hh
                                                                                              refine v_iconst dL_law_1459 (by decide : _ = (0 : Int32)) ?_
                                                                                              obtain rfl := Option.some.inj hh
                                                                                              exact v_zret dL_law_1460 rfl (zb (by decide)).1 (by show _ ≤ 600000; omega) (by show _ ≤ 7302249; omega) ⟨rfl, rfl⟩
                                                                                        · replace hh := (if_neg c).symm.trans hh
                                                                                          refine v_iconst dL_law_1426 (by decide : _ = (1 : Int32)) ?_
                                                                                          refine v_goto (tgt := 1431) dL_law_1427 (by decide) ?_
                                                                                          obtain ⟨q291, eq291, hh⟩ := bnd_some hh
                                                                                          refine v_callVi (t_X9_likely eq291) dL_law_1431 y_X9_likely ml_L_182 (ci := 8) rfl rfl (e_RolledOut) rfl rfl (Nat.le_of_ble_eq_true rfl) ⟨(Nat.le_of_ble_eq_true rfl), (Nat.le_of_ble_eq_true rfl)⟩ ⟨by show _ ≤ 600000; omega, by show _ ≤ 7302249; omega⟩ ?_
                                                                                          refine v_aload_n 2 dL_law_1434 rfl rfl ?_
                                                                                          refine v_aload_n 0 dL_law_1435 rfl rfl ?_
                                                                                          refine v_iload_n 3 dL_law_1436 rfl rfl ?_
                                                                                          refine v_iconst dL_law_1437 (by decide : _ = (1 : Int32)) ?_
                                                                                          refine v_iadd dL_law_1438 ?_
                                                                                          obtain ⟨g292, hh⟩ := chk_some hh
                                                                                          replace g292 := inb_in g292
                                                                                          refine v_sld dL_law_1439 g292 ?_
                                                                                          refine v_aload_n 0 dL_law_1440 rfl rfl ?_
                                                                                          refine v_iload_n 3 dL_law_1441 rfl rfl ?_
                                                                                          refine v_iconst dL_law_1442 (by decide : _ = (2 : Int32)) ?_
                                                                                          refine v_iadd dL_law_1443 ?_
                                                                                          obtain ⟨g293, hh⟩ := chk_some hh
                                                                                          replace g293 := inb_in g293
                                                                                          refine v_sld dL_law_1444 g293 ?_
                                                                                          refine v_if_eq (tgt := 1452) dL_law_1445 (by decide) (fun c => ?_) (fun c => ?_)
                                                                                          · replace hh := (if_pos c).symm.trans hh
                                                                                            refine v_iconst dL_law_1452 (by decide : _ = (0 : Int32)) ?_
                                                                                            obtain ⟨q294, eq294, hh⟩ := bnd_some hh
                                                                                            refine v_callVi (t_X10_likely eq294) dL_law_1453 y_X10_likely ml_L_185 (ci := 9) rfl rfl (e_Model) rfl rfl (Nat.le_of_ble_eq_true rfl) ⟨(Nat.le_of_ble_eq_true rfl), (Nat.le_of_ble_eq_true rfl)⟩ ⟨by show _ ≤ 600000; omega, by show _ ≤ 7302249; omega⟩ ?_
                                                                                            refine v_icmp_eq (tgt := 1641) dL_law_1456 (by decide) (fun c => ?_) (fun c => ?_)
                                                                                            · replace hh := (if_pos c).symm.trans hh
                                                                                              refine v_iinc (v := _ + (6 : Int32)) 3 dL_law_1641 rfl rfl (by decide) rfl ?_
                                                                                              replace hh := lt_of hh
                                                                                              refine v_goto (tgt := 18) dL_law_1644 (by decide) ?_
                                                                                              exact v_sub [1, 2, 3, 0] rfl (ih (cc0) (ss0) (by omega) (by omega) _ _ hh)
                                                                                            · replace hh := (if_neg c).symm.trans hh
                                                                                              refine v_iconst dL_law_1459 (by decide : _ = (0 : Int32)) ?_
                                                                                              obtain rfl := Option.some.inj hh
                                                                                              exact v_zret dL_law_1460 rfl (zb (by decide)).1 (by show _ ≤ 600000; omega) (by show _ ≤ 7302249; omega) ⟨rfl, rfl⟩
                                                                                          · replace hh := (if_neg c).symm.trans hh
                                                                                            refine v_iconst dL_law_1448 (by decide : _ = (1 : Int32)) ?_
                                                                                            refine v_goto (tgt := 1453) dL_law_1449 (by decide) ?_
                                                                                            obtain ⟨q296, eq296, hh⟩ := bnd_some hh
                                                                                            refine v_callVi (t_X10_likely eq296) dL_law_1453 y_X10_likely ml_L_185 (ci := 9) rfl rfl (e_Model) rfl rfl (Nat.le_of_ble_eq_true rfl) ⟨(Nat.le_of_ble_eq_true rfl), (Nat.le_of_ble_eq_true rfl)⟩ ⟨by show _ ≤ 600000; omega, by show _ ≤ 7302249; omega⟩ ?_
                                                                                            refine v_icmp_eq (tgt := 1641) dL_law_1456 (by decide) (fun c => ?_) (fun c => ?_)
                                                                                            · replace hh := (if_pos c).symm.trans hh
                                                                                              refine v_iinc (v := _ + (6 : Int32)) 3 dL_law_1641 rfl rfl (by decide) rfl ?_
                                                                                              replace hh := lt_of hh
                                                                                              refine v_goto (tgt := 18) dL_law_1644 (by decide) ?_
                                                                                              exact v_sub [1, 2, 3, 0] rfl (ih (cc0) (ss0) (by omega) (by omega) _ _ hh)
                                                                                            · replace hh := (if_neg c).symm.trans hh
                                                                                              refine v_iconst dL_law_1459 (by decide : _ = (0 : Int32)) ?_
                                                                                              obtain rfl := Option.some.inj hh
                                                                                              exact v_zret dL_law_1460 rfl (zb (by decide)).1 (by show _ ≤ 600000; omega) (by show _ ≤ 7302249; omega) ⟨rfl, rfl⟩
                                                                                      · skip
                                                                                        refine sw_if hh (fun c41 hh => ?_) (fun c41 hh => ?_)
                                                                                        · skip
                                                                                          refine v_tableIn (tgt := 1461) dL_law_33 (by rw [c41]; decide) (by rw [c41]; decide) (by rw [c41] <;> rfl) (by decide) ?_
                                                                                          refine v_aload_n 1 dL_law_1461 rfl rfl ?_
                                                                                          obtain ⟨q298, eq298, hh⟩ := bnd_some hh
                                                                                          refine v_callVi (t_X9_thin eq298) dL_law_1462 y_X9_thin ml_L_186 (ci := 8) rfl rfl (e_RolledOut) rfl rfl (Nat.le_of_ble_eq_true rfl) ⟨(Nat.le_of_ble_eq_true rfl), (Nat.le_of_ble_eq_true rfl)⟩ ⟨by show _ ≤ 600000; omega, by show _ ≤ 7302249; omega⟩ ?_
                                                                                          refine v_aload_n 2 dL_law_1465 rfl rfl ?_
                                                                                          obtain ⟨q299, eq299, hh⟩ := bnd_some hh
                                                                                          refine v_callVi (t_X10_thin eq299) dL_law_1466 y_X10_thin ml_L_189 (ci := 9) rfl rfl (e_Model) rfl rfl (Nat.le_of_ble_eq_true rfl) ⟨(Nat.le_of_ble_eq_true rfl), (Nat.le_of_ble_eq_true rfl)⟩ ⟨by show _ ≤ 600000; omega, by show _ ≤ 7302249; omega⟩ ?_
                                                                                          refine v_icmp_eq (tgt := 1641) dL_law_1469 (by decide) (fun c => ?_) (fun c => ?_)
                                                                                          · replace hh := (if_pos c).symm.trans hh
                                                                                            refine v_iinc (v := _ + (6 : Int32)) 3 dL_law_1641 rfl rfl (by decide) rfl ?_
                                                                                            replace hh := lt_of hh
                                                                                            refine v_goto (tgt := 18) dL_law_1644 (by decide) ?_
                                                                                            exact v_sub [1, 2, 3, 0] rfl (ih (cc0) (ss0) (by omega) (by omega) _ _ hh)
                                                                                          · replace hh := (if_neg c).symm.trans hh
                                                                                            refine v_iconst dL_law_1472 (by decide : _ = (0 : Int32)) ?_
                                                                                            obtain rfl := Option.some.inj hh
                                                                                            exact v_zret dL_law_1473 rfl (zb (by decide)).1 (by show _ ≤ 600000; omega) (by show _ ≤ 7302249; omega) ⟨rfl, rfl⟩
                                                                                        · skip
                                                                                          refine sw_if hh (fun c42 hh => ?_) (fun c42 hh => ?_)
                                                                                          · skip
                                                                                            refine v_tableIn (tgt := 1474) dL_law_33 (by rw [c42]; decide) (by rw [c42]; decide) (by rw [c42] <;> rfl) (by decide) ?_
                                                                                            refine v_aload_n 1 dL_law_1474 rfl rfl ?_
                                                                                            obtain ⟨q301, eq301, hh⟩ := bnd_some hh
                                                                                            refine v_callVi (t_X9_thick eq301) dL_law_1475 y_X9_thick ml_L_190 (ci := 8) rfl rfl (e_RolledOut) rfl rfl (Nat.le_of_ble_eq_true rfl) ⟨(Nat.le_of_ble_eq_true rfl), (Nat.le_of_ble_eq_true rfl)⟩ ⟨by show _ ≤ 600000; omega, by show _ ≤ 7302249; omega⟩ ?_
                                                                                            refine v_aload_n 2 dL_law_1478 rfl rfl ?_
                                                                                            obtain ⟨q302, eq302, hh⟩ := bnd_some hh
                                                                                            refine v_callVi (t_X10_thick eq302) dL_law_1479 y_X10_thick ml_L_193 (ci := 9) rfl rfl (e_Model) rfl rfl (Nat.le_of_ble_eq_true rfl) ⟨(Nat.le_of_ble_eq_true rfl), (Nat.le_of_ble_eq_true rfl)⟩ ⟨by show _ ≤ 600000; omega, by show _ ≤ 7302249; omega⟩ ?_
                                                                                            refine v_icmp_eq (tgt := 1641) dL_law_1482 (by decide) (fun c => ?_) (fun c => ?_)
                                                                                            · replace hh := (if_pos c).symm.trans hh
                                                                                              refine v_iinc (v := _ + (6 : Int32)) 3 dL_law_1641 rfl rfl (by decide) rfl ?_
                                                                                              replace hh := lt_of hh
                                                                                              refine v_goto (tgt := 18) dL_law_1644 (by decide) ?_
                                                                                              exact v_sub [1, 2, 3, 0] rfl (ih (cc0) (ss0) (by omega) (by omega) _ _ hh)
                                                                                            · replace hh := (if_neg c).symm.trans hh
                                                                                              refine v_iconst dL_law_1485 (by decide : _ = (0 : Int32)) ?_
                                                                                              obtain rfl := Option.some.inj hh
                                                                                              exact v_zret dL_law_1486 rfl (zb (by decide)).1 (by show _ ≤ 600000; omega) (by show _ ≤ 7302249; omega) ⟨rfl, rfl⟩
                                                                                          · skip
                                                                                            refine sw_if hh (fun c43 hh => ?_) (fun c43 hh => ?_)
                                                                                            · skip
                                                                                              refine v_tableIn (tgt := 1487) dL_law_33 (by rw [c43]; decide) (by rw [c43]; decide) (by rw [c43] <;> rfl) (by decide) ?_
                                                                                              refine v_aload_n 1 dL_law_1487 rfl rfl ?_
                                                                                              obtain ⟨q304, eq304, hh⟩ := bnd_some hh
                                                                                              refine v_callVi (t_X9_apart eq304) dL_law_1488 y_X9_apart ml_L_194 (ci := 8) rfl rfl (e_RolledOut) rfl rfl (Nat.le_of_ble_eq_true rfl) ⟨(Nat.le_of_ble_eq_true rfl), (Nat.le_of_ble_eq_true rfl)⟩ ⟨by show _ ≤ 600000; omega, by show _ ≤ 7302249; omega⟩ ?_
                                                                                              refine v_aload_n 2 dL_law_1491 rfl rfl ?_
                                                                                              obtain ⟨q305, eq305, hh⟩ := bnd_some hh
                                                                                              refine v_callVi (t_X10_apart eq305) dL_law_1492 y_X10_apart ml_L_197 (ci := 9) rfl rfl (e_Model) rfl rfl (Nat.le_of_ble_eq_true rfl) ⟨(Nat.le_of_ble_eq_true rfl), (Nat.le_of_ble_eq_true rfl)⟩ ⟨by show _ ≤ 600000; omega, by show _ ≤ 7302249; omega⟩ ?_
                                                                                              refine v_icmp_eq (tgt := 1641) dL_law_1495 (by decide) (fun c => ?_) (fun c => ?_)
                                                                                              · replace hh := (if_pos c).symm.trans hh
                                                                                                refine v_iinc (v := _ + (6 : Int32)) 3 dL_law_1641 rfl rfl (by decide) rfl ?_
                                                                                                replace hh := lt_of hh
                                                                                                refine v_goto (tgt := 18) dL_law_1644 (by decide) ?_
                                                                                                exact v_sub [1, 2, 3, 0] rfl (ih (cc0) (ss0) (by omega) (by omega) _ _ hh)
                                                                                              · replace hh := (if_neg c).symm.trans hh
                                                                                                refine v_iconst dL_law_1498 (by decide : _ = (0 : Int32)) ?_
                                                                                                obtain rfl := Option.some.inj hh
                                                                                                exact v_zret dL_law_1499 rfl (zb (by decide)).1 (by show _ ≤ 600000; omega) (by show _ ≤ 7302249; omega) ⟨rfl, rfl⟩
                                                                                            · skip
                                                                                              refine sw_if hh (fun c44 hh => ?_) (fun c44 hh => ?_)
                                                                                              · skip
                                                                                                refine v_tableIn (tgt := 1500) dL_law_33 (by rw [c44]; decide) (by rw [c44]; decide) (by rw [c44] <;> rfl) (by decide) ?_
                                                                                                refine v_aload_n 1 dL_law_1500 rfl rfl ?_
                                                                                                obtain ⟨q307, eq307, hh⟩ := bnd_some hh
                                                                                                refine v_callVi (t_X9_fallen eq307) dL_law_1501 y_X9_fallen ml_L_198 (ci := 8) rfl rfl (e_RolledOut) rfl rfl (Nat.le_of_ble_eq_true rfl) ⟨(Nat.le_of_ble_eq_true rfl), (Nat.le_of_ble_eq_true rfl)⟩ ⟨by show _ ≤ 600000; omega, by show _ ≤ 7302249; omega⟩ ?_
                                                                                                refine v_aload_n 2 dL_law_1504 rfl rfl ?_
                                                                                                obtain ⟨q308, eq308, hh⟩ := bnd_some hh
                                                                                                refine v_callVi (t_X10_fallen eq308) dL_law_1505 y_X10_fallen ml_L_201 (ci := 9) rfl rfl (e_Model) rfl rfl (Nat.le_of_ble_eq_true rfl) ⟨(Nat.le_of_ble_eq_true rfl), (Nat.le_of_ble_eq_true rfl)⟩ ⟨by show _ ≤ 600000; omega, by show _ ≤ 7302249; omega⟩ ?_
                                                                                                refine v_icmp_eq (tgt := 1641) dL_law_1508 (by decide) (fun c => ?_) (fun c => ?_)
                                                                                                · replace hh := (if_pos c).symm.trans hh
                                                                                                  refine v_iinc (v := _ + (6 : Int32)) 3 dL_law_1641 rfl rfl (by decide) rfl ?_
                                                                                                  replace hh := lt_of hh
                                                                                                  refine v_goto (tgt := 18) dL_law_1644 (by decide) ?_
                                                                                                  exact v_sub [1, 2, 3, 0] rfl (ih (cc0) (ss0) (by omega) (by omega) _ _ hh)
                                                                                                · replace hh := (if_neg c).symm.trans hh
                                                                                                  refine v_iconst dL_law_1511 (by decide : _ = (0 : Int32)) ?_
                                                                                                  obtain rfl := Option.some.inj hh
                                                                                                  exact v_zret dL_law_1512 rfl (zb (by decide)).1 (by show _ ≤ 600000; omega) (by show _ ≤ 7302249; omega) ⟨rfl, rfl⟩
                                                                                              · skip
                                                                                                refine sw_if hh (fun c45 hh => ?_) (fun c45 hh => ?_)
                                                                                                · skip
                                                                                                  refine v_tableIn (tgt := 1513) dL_law_33 (by rw [c45]; decide) (by rw [c45]; decide) (by rw [c45] <;> rfl) (by decide) ?_
                                                                                                  refine v_aload_n 1 dL_law_1513 rfl rfl ?_
                                                                                                  refine v_aload_n 0 dL_law_1514 rfl rfl ?_
                                                                                                  refine v_iload_n 3 dL_law_1515 rfl rfl ?_
                                                                                                  refine v_iconst dL_law_1516 (by decide : _ = (1 : Int32)) ?_
                                                                                                  refine v_iadd dL_law_1517 ?_
                                                                                                  obtain ⟨g310, hh⟩ := chk_some hh
                                                                                                  replace g310 := inb_in g310
                                                                                                  refine v_sld dL_law_1518 g310 ?_
                                                                                                  refine v_aload_n 0 dL_law_1519 rfl rfl ?_
                                                                                                  refine v_iload_n 3 dL_law_1520 rfl rfl ?_
                                                                                                  refine v_iconst dL_law_1521 (by decide : _ = (2 : Int32)) ?_
                                                                                                  refine v_iadd dL_law_1522 ?_
                                                                                                  obtain ⟨g311, hh⟩ := chk_some hh
                                                                                                  replace g311 := inb_in g311
                                                                                                  refine v_sld dL_law_1523 g311 ?_
                                                                                                  refine v_aload_n 0 dL_law_1524 rfl rfl ?_
                                                                                                  refine v_iload_n 3 dL_law_1525 rfl rfl ?_
                                                                                                  refine v_iconst dL_law_1526 (by decide : _ = (3 : Int32)) ?_
                                                                                                  refine v_iadd dL_law_1527 ?_
                                                                                                  obtain ⟨g312, hh⟩ := chk_some hh
                                                                                                  replace g312 := inb_in g312
                                                                                                  refine v_sld dL_law_1528 g312 ?_
                                                                                                  obtain ⟨q313, eq313, hh⟩ := bnd_some hh
                                                                                                  refine v_callVi (t_X9_said eq313) dL_law_1529 y_X9_said ml_L_202 (ci := 8) rfl rfl (e_RolledOut) rfl rfl (Nat.le_of_ble_eq_true rfl) ⟨(Nat.le_of_ble_eq_true rfl), (Nat.le_of_ble_eq_true rfl)⟩ ⟨by show _ ≤ 600000; omega, by show _ ≤ 7302249; omega⟩ ?_
                                                                                                  refine v_aload_n 2 dL_law_1532 rfl rfl ?_
                                                                                                  refine v_aload_n 0 dL_law_1533 rfl rfl ?_
                                                                                                  refine v_iload_n 3 dL_law_1534 rfl rfl ?_
                                                                                                  refine v_iconst dL_law_1535 (by decide : _ = (1 : Int32)) ?_
                                                                                                  refine v_iadd dL_law_1536 ?_
                                                                                                  obtain ⟨g314, hh⟩ := chk_some hh
                                                                                                  replace g314 := inb_in g314
                                                                                                  refine v_sld dL_law_1537 g314 ?_
                                                                                                  refine v_aload_n 0 dL_law_1538 rfl rfl ?_
                                                                                                  refine v_iload_n 3 dL_law_1539 rfl rfl ?_
                                                                                                  refine v_iconst dL_law_1540 (by decide : _ = (2 : Int32)) ?_
                                                                                                  refine v_iadd dL_law_1541 ?_
                                                                                                  obtain ⟨g315, hh⟩ := chk_some hh
                                                                                                  replace g315 := inb_in g315
                                                                                                  refine v_sld dL_law_1542 g315 ?_
                                                                                                  refine v_aload_n 0 dL_law_1543 rfl rfl ?_
                                                                                                  refine v_iload_n 3 dL_law_1544 rfl rfl ?_
                                                                                                  refine v_iconst dL_law_1545 (by decide : _ = (3 : Int32)) ?_
                                                                                                  refine v_iadd dL_law_1546 ?_
                                                                                                  obtain ⟨g316, hh⟩ := chk_some hh
                                                                                                  replace g316 := inb_in g316
                                                                                                  refine v_sld dL_law_1547 g316 ?_
                                                                                                  obtain ⟨q317, eq317, hh⟩ := bnd_some hh
                                                                                                  refine v_callVi (t_X10_said eq317) dL_law_1548 y_X10_said ml_L_205 (ci := 9) rfl rfl (e_Model) rfl rfl (Nat.le_of_ble_eq_true rfl) ⟨(Nat.le_of_ble_eq_true rfl), (Nat.le_of_ble_eq_true rfl)⟩ ⟨by show _ ≤ 600000; omega, by show _ ≤ 7302249; omega⟩ ?_
                                                                                                  refine v_icmp_eq (tgt := 1641) dL_law_1551 (by decide) (fun c => ?_) (fun c => ?_)
                                                                                                  · replace hh := (if_pos c).symm.trans hh
                                                                                                    refine v_iinc (v := _ + (6 : Int32)) 3 dL_law_1641 rfl rfl (by decide) rfl ?_
                                                                                                    replace hh := lt_of hh
                                                                                                    refine v_goto (tgt := 18) dL_law_1644 (by decide) ?_
                                                                                                    exact v_sub [1, 2, 3, 0] rfl (ih (cc0) (ss0) (by omega) (by omega) _ _ hh)
                                                                                                  · replace hh := (if_neg c).symm.trans hh
                                                                                                    refine v_iconst dL_law_1554 (by decide : _ = (0 : Int32)) ?_
                                                                                                    obtain rfl := Option.some.inj hh
                                                                                                    exact v_zret dL_law_1555 rfl (zb (by decide)).1 (by show _ ≤ 600000; omega) (by show _ ≤ 7302249; omega) ⟨rfl, rfl⟩
                                                                                                · skip
                                                                                                  refine sw_if hh (fun c46 hh => ?_) (fun c46 hh => ?_)
                                                                                                  · skip
                                                                                                    refine v_tableIn (tgt := 1556) dL_law_33 (by rw [c46]; decide) (by rw [c46]; decide) (by rw [c46] <;> rfl) (by decide) ?_
                                                                                                    refine v_aload_n 1 dL_law_1556 rfl rfl ?_
                                                                                                    obtain ⟨q319, eq319, hh⟩ := bnd_some hh
                                                                                                    refine v_callVi (t_X9_whose eq319) dL_law_1557 y_X9_whose ml_L_206 (ci := 8) rfl rfl (e_RolledOut) rfl rfl (Nat.le_of_ble_eq_true rfl) ⟨(Nat.le_of_ble_eq_true rfl), (Nat.le_of_ble_eq_true rfl)⟩ ⟨by show _ ≤ 600000; omega, by show _ ≤ 7302249; omega⟩ ?_
                                                                                                    refine v_aload_n 2 dL_law_1560 rfl rfl ?_
                                                                                                    obtain ⟨q320, eq320, hh⟩ := bnd_some hh
                                                                                                    refine v_callVi (t_X10_whose eq320) dL_law_1561 y_X10_whose ml_L_209 (ci := 9) rfl rfl (e_Model) rfl rfl (Nat.le_of_ble_eq_true rfl) ⟨(Nat.le_of_ble_eq_true rfl), (Nat.le_of_ble_eq_true rfl)⟩ ⟨by show _ ≤ 600000; omega, by show _ ≤ 7302249; omega⟩ ?_
                                                                                                    refine v_icmp_eq (tgt := 1641) dL_law_1564 (by decide) (fun c => ?_) (fun c => ?_)
                                                                                                    · replace hh := (if_pos c).symm.trans hh
                                                                                                      refine v_iinc (v := _ + (6 : Int32)) 3 dL_law_1641 rfl rfl (by decide) rfl ?_
                                                                                                      replace hh := lt_of hh
                                                                                                      refine v_goto (tgt := 18) dL_law_1644 (by decide) ?_
                                                                                                      exact v_sub [1, 2, 3, 0] rfl (ih (cc0) (ss0) (by omega) (by omega) _ _ hh)
                                                                                                    · replace hh := (if_neg c).symm.trans hh
                                                                                                      refine v_iconst dL_law_1567 (by decide : _ = (0 : Int32)) ?_
                                                                                                      obtain rfl := Option.some.inj hh
                                                                                                      exact v_zret dL_law_1568 rfl (zb (by decide)).1 (by show _ ≤ 600000; omega) (by show _ ≤ 7302249; omega) ⟨rfl, rfl⟩
                                                                                                  · skip
                                                                                                    refine sw_if hh (fun c47 hh => ?_) (fun c47 hh => ?_)
                                                                                                    · skip
                                                                                                      refine v_tableIn (tgt := 1569) dL_law_33 (by rw [c47]; decide) (by rw [c47]; decide) (by rw [c47] <;> rfl) (by decide) ?_
                                                                                                      refine v_aload_n 1 dL_law_1569 rfl rfl ?_
                                                                                                      refine v_aload_n 0 dL_law_1570 rfl rfl ?_
                                                                                                      refine v_iload_n 3 dL_law_1571 rfl rfl ?_
                                                                                                      refine v_iconst dL_law_1572 (by decide : _ = (1 : Int32)) ?_
                                                                                                      refine v_iadd dL_law_1573 ?_
                                                                                                      obtain ⟨g322, hh⟩ := chk_some hh
                                                                                                      replace g322 := inb_in g322
                                                                                                      refine v_sld dL_law_1574 g322 ?_
                                                                                                      obtain ⟨q323, eq323, hh⟩ := bnd_some hh
                                                                                                      refine v_callVi (t_X9_ledger eq323) dL_law_1575 y_X9_ledger ml_L_210 (ci := 8) rfl rfl (e_RolledOut) rfl rfl (Nat.le_of_ble_eq_true rfl) ⟨(Nat.le_of_ble_eq_true rfl), (Nat.le_of_ble_eq_true rfl)⟩ ⟨by show _ ≤ 600000; omega, by show _ ≤ 7302249; omega⟩ ?_
                                                                                                      refine v_aload_n 2 dL_law_1578 rfl rfl ?_
                                                                                                      refine v_aload_n 0 dL_law_1579 rfl rfl ?_
                                                                                                      refine v_iload_n 3 dL_law_1580 rfl rfl ?_
                                                                                                      refine v_iconst dL_law_1581 (by decide : _ = (1 : Int32)) ?_
                                                                                                      refine v_iadd dL_law_1582 ?_
                                                                                                      obtain ⟨g324, hh⟩ := chk_some hh
                                                                                                      replace g324 := inb_in g324
                                                                                                      refine v_sld dL_law_1583 g324 ?_
                                                                                                      obtain ⟨q325, eq325, hh⟩ := bnd_some hh
                                                                                                      refine v_callVi (t_X10_ledger eq325) dL_law_1584 y_X10_ledger ml_L_213 (ci := 9) rfl rfl (e_Model) rfl rfl (Nat.le_of_ble_eq_true rfl) ⟨(Nat.le_of_ble_eq_true rfl), (Nat.le_of_ble_eq_true rfl)⟩ ⟨by show _ ≤ 600000; omega, by show _ ≤ 7302249; omega⟩ ?_
                                                                                                      refine v_icmp_eq (tgt := 1641) dL_law_1587 (by decide) (fun c => ?_) (fun c => ?_)
                                                                                                      · replace hh := (if_pos c).symm.trans hh
                                                                                                        refine v_iinc (v := _ + (6 : Int32)) 3 dL_law_1641 rfl rfl (by decide) rfl ?_
                                                                                                        replace hh := lt_of hh
                                                                                                        refine v_goto (tgt := 18) dL_law_1644 (by decide) ?_
                                                                                                        exact v_sub [1, 2, 3, 0] rfl (ih (cc0) (ss0) (by omega) (by omega) _ _ hh)
                                                                                                      · replace hh := (if_neg c).symm.trans hh
                                                                                                        refine v_iconst dL_law_1590 (by decide : _ = (0 : Int32)) ?_
                                                                                                        obtain rfl := Option.some.inj hh
                                                                                                        exact v_zret dL_law_1591 rfl (zb (by decide)).1 (by show _ ≤ 600000; omega) (by show _ ≤ 7302249; omega) ⟨rfl, rfl⟩
                                                                                                    · skip
                                                                                                      refine sw_if hh (fun c48 hh => ?_) (fun c48 hh => ?_)
                                                                                                      · skip
                                                                                                        refine v_tableIn (tgt := 1592) dL_law_33 (by rw [c48]; decide) (by rw [c48]; decide) (by rw [c48] <;> rfl) (by decide) ?_
                                                                                                        refine v_aload_n 1 dL_law_1592 rfl rfl ?_
                                                                                                        obtain ⟨q327, eq327, hh⟩ := bnd_some hh
                                                                                                        refine v_callVi (t_X9_image eq327) dL_law_1593 y_X9_image ml_L_214 (ci := 8) rfl rfl (e_RolledOut) rfl rfl (Nat.le_of_ble_eq_true rfl) ⟨(Nat.le_of_ble_eq_true rfl), (Nat.le_of_ble_eq_true rfl)⟩ ⟨by show _ ≤ 600000; omega, by show _ ≤ 7302249; omega⟩ ?_
                                                                                                        refine v_aload_n 2 dL_law_1596 rfl rfl ?_
                                                                                                        obtain ⟨q328, eq328, hh⟩ := bnd_some hh
                                                                                                        refine v_callVi (t_X10_image eq328) dL_law_1597 y_X10_image ml_L_217 (ci := 9) rfl rfl (e_Model) rfl rfl (Nat.le_of_ble_eq_true rfl) ⟨(Nat.le_of_ble_eq_true rfl), (Nat.le_of_ble_eq_true rfl)⟩ ⟨by show _ ≤ 600000; omega, by show _ ≤ 7302249; omega⟩ ?_
                                                                                                        refine v_icmp_eq (tgt := 1641) dL_law_1600 (by decide) (fun c => ?_) (fun c => ?_)
                                                                                                        · replace hh := (if_pos c).symm.trans hh
                                                                                                          refine v_iinc (v := _ + (6 : Int32)) 3 dL_law_1641 rfl rfl (by decide) rfl ?_
                                                                                                          replace hh := lt_of hh
                                                                                                          refine v_goto (tgt := 18) dL_law_1644 (by decide) ?_
                                                                                                          exact v_sub [1, 2, 3, 0] rfl (ih (cc0) (ss0) (by omega) (by omega) _ _ hh)
                                                                                                        · replace hh := (if_neg c).symm.trans hh
                                                                                                          refine v_iconst dL_law_1603 (by decide : _ = (0 : Int32)) ?_
                                                                                                          obtain rfl := Option.some.inj hh
                                                                                                          exact v_zret dL_law_1604 rfl (zb (by decide)).1 (by show _ ≤ 600000; omega) (by show _ ≤ 7302249; omega) ⟨rfl, rfl⟩
                                                                                                      · skip
                                                                                                        refine sw_if hh (fun c49 hh => ?_) (fun c49 hh => ?_)
                                                                                                        · skip
                                                                                                          refine v_tableIn (tgt := 1605) dL_law_33 (by rw [c49]; decide) (by rw [c49]; decide) (by rw [c49] <;> rfl) (by decide) ?_
                                                                                                          refine v_aload_n 1 dL_law_1605 rfl rfl ?_
                                                                                                          obtain ⟨q330, eq330, hh⟩ := bnd_some hh
                                                                                                          refine v_callVi (t_X9_back eq330) dL_law_1606 y_X9_back ml_L_218 (ci := 8) rfl rfl (e_RolledOut) rfl rfl (Nat.le_of_ble_eq_true rfl) ⟨(Nat.le_of_ble_eq_true rfl), (Nat.le_of_ble_eq_true rfl)⟩ ⟨by show _ ≤ 600000; omega, by show _ ≤ 7302249; omega⟩ ?_
                                                                                                          refine v_aload_n 2 dL_law_1609 rfl rfl ?_
                                                                                                          obtain ⟨q331, eq331, hh⟩ := bnd_some hh
                                                                                                          refine v_callVi (t_X10_back eq331) dL_law_1610 y_X10_back ml_L_221 (ci := 9) rfl rfl (e_Model) rfl rfl (Nat.le_of_ble_eq_true rfl) ⟨(Nat.le_of_ble_eq_true rfl), (Nat.le_of_ble_eq_true rfl)⟩ ⟨by show _ ≤ 600000; omega, by show _ ≤ 7302249; omega⟩ ?_
                                                                                                          refine v_icmp_eq (tgt := 1641) dL_law_1613 (by decide) (fun c => ?_) (fun c => ?_)
                                                                                                          · replace hh := (if_pos c).symm.trans hh
                                                                                                            refine v_iinc (v := _ + (6 : Int32)) 3 dL_law_1641 rfl rfl (by decide) rfl ?_
                                                                                                            replace hh := lt_of hh
                                                                                                            refine v_goto (tgt := 18) dL_law_1644 (by decide) ?_
                                                                                                            exact v_sub [1, 2, 3, 0] rfl (ih (cc0) (ss0) (by omega) (by omega) _ _ hh)
                                                                                                          · replace hh := (if_neg c).symm.trans hh
                                                                                                            refine v_iconst dL_law_1616 (by decide : _ = (0 : Int32)) ?_
                                                                                                            obtain rfl := Option.some.inj hh
                                                                                                            exact v_zret dL_law_1617 rfl (zb (by decide)).1 (by show _ ≤ 600000; omega) (by show _ ≤ 7302249; omega) ⟨rfl, rfl⟩
                                                                                                        · skip
                                                                                                          refine sw_if hh (fun c50 hh => ?_) (fun c50 hh => ?_)
                                                                                                          · skip
                                                                                                            refine v_tableIn (tgt := 1618) dL_law_33 (by rw [c50]; decide) (by rw [c50]; decide) (by rw [c50] <;> rfl) (by decide) ?_
                                                                                                            refine v_aload_n 1 dL_law_1618 rfl rfl ?_
                                                                                                            refine v_aload_n 0 dL_law_1619 rfl rfl ?_
                                                                                                            refine v_iload_n 3 dL_law_1620 rfl rfl ?_
                                                                                                            refine v_iconst dL_law_1621 (by decide : _ = (1 : Int32)) ?_
                                                                                                            refine v_iadd dL_law_1622 ?_
                                                                                                            obtain ⟨g333, hh⟩ := chk_some hh
                                                                                                            replace g333 := inb_in g333
                                                                                                            refine v_sld dL_law_1623 g333 ?_
                                                                                                            obtain ⟨q334, eq334, hh⟩ := bnd_some hh
                                                                                                            refine v_callVi (t_X9_about eq334) dL_law_1624 y_X9_about ml_L_222 (ci := 8) rfl rfl (e_RolledOut) rfl rfl (Nat.le_of_ble_eq_true rfl) ⟨(Nat.le_of_ble_eq_true rfl), (Nat.le_of_ble_eq_true rfl)⟩ ⟨by show _ ≤ 600000; omega, by show _ ≤ 7302249; omega⟩ ?_
                                                                                                            refine v_aload_n 2 dL_law_1627 rfl rfl ?_
                                                                                                            refine v_aload_n 0 dL_law_1628 rfl rfl ?_
                                                                                                            refine v_iload_n 3 dL_law_1629 rfl rfl ?_
                                                                                                            refine v_iconst dL_law_1630 (by decide : _ = (1 : Int32)) ?_
                                                                                                            refine v_iadd dL_law_1631 ?_
                                                                                                            obtain ⟨g335, hh⟩ := chk_some hh
                                                                                                            replace g335 := inb_in g335
                                                                                                            refine v_sld dL_law_1632 g335 ?_
                                                                                                            obtain ⟨q336, eq336, hh⟩ := bnd_some hh
                                                                                                            refine v_callVi (t_X10_about eq336) dL_law_1633 y_X10_about ml_L_225 (ci := 9) rfl rfl (e_Model) rfl rfl (Nat.le_of_ble_eq_true rfl) ⟨(Nat.le_of_ble_eq_true rfl), (Nat.le_of_ble_eq_true rfl)⟩ ⟨by show _ ≤ 600000; omega, by show _ ≤ 7302249; omega⟩ ?_
                                                                                                            refine v_icmp_eq (tgt := 1641) dL_law_1636 (by decide) (fun c => ?_) (fun c => ?_)
                                                                                                            · replace hh := (if_pos c).symm.trans hh
                                                                                                              refine v_iinc (v := _ + (6 : Int32)) 3 dL_law_1641 rfl rfl (by decide) rfl ?_
                                                                                                              replace hh := lt_of hh
                                                                                                              refine v_goto (tgt := 18) dL_law_1644 (by decide) ?_
                                                                                                              exact v_sub [1, 2, 3, 0] rfl (ih (cc0) (ss0) (by omega) (by omega) _ _ hh)
                                                                                                            · replace hh := (if_neg c).symm.trans hh
                                                                                                              refine v_iconst dL_law_1639 (by decide : _ = (0 : Int32)) ?_
                                                                                                              obtain rfl := Option.some.inj hh
                                                                                                              exact v_zret dL_law_1640 rfl (zb (by decide)).1 (by show _ ≤ 600000; omega) (by show _ ≤ 7302249; omega) ⟨rfl, rfl⟩
                                                                                                          · skip
                                                                                                            refine v_tableOut (tgt := 1641) dL_law_33 (sw_out 51 (by decide) (fun k hk => match k, hk with | 0, _ => fun h => c0 (h.trans (by decide)) | 1, _ => fun h => c1 (h.trans (by decide)) | 2, _ => fun h => c2 (h.trans (by decide)) | 3, _ => fun h => c3 (h.trans (by decide)) | 4, _ => fun h => c4 (h.trans (by decide)) | 5, _ => fun h => c5 (h.trans (by decide)) | 6, _ => fun h => c6 (h.trans (by decide)) | 7, _ => fun h => c7 (h.trans (by decide)) | 8, _ => fun h => c8 (h.trans (by decide)) | 9, _ => fun h => c9 (h.trans (by decide)) | 10, _ => fun h => c10 (h.trans (by decide)) | 11, _ => fun h => c11 (h.trans (by decide)) | 12, _ => fun h => c12 (h.trans (by decide)) | 13, _ => fun h => c13 (h.trans (by decide)) | 14, _ => fun h => c14 (h.trans (by decide)) | 15, _ => fun h => c15 (h.trans (by decide)) | 16, _ => fun h => c16 (h.trans (by decide)) | 17, _ => fun h => c17 (h.trans (by decide)) | 18, _ => fun h => c18 (h.trans (by decide)) | 19, _ => fun h => c19 (h.trans (by decide)) | 20, _ => fun h => c20 (h.trans (by decide)) | 21, _ => fun h => c21 (h.trans (by decide)) | 22, _ => fun h => c22 (h.trans (by decide)) | 23, _ => fun h => c23 (h.trans (by decide)) | 24, _ => fun h => c24 (h.trans (by decide)) | 25, _ => fun h => c25 (h.trans (by decide)) | 26, _ => fun h => c26 (h.trans (by decide)) | 27, _ => fun h => c27 (h.trans (by decide)) | 28, _ => fun h => c28 (h.trans (by decide)) | 29, _ => fun h => c29 (h.trans (by decide)) | 30, _ => fun h => c30 (h.trans (by decide)) | 31, _ => fun h => c31 (h.trans (by decide)) | 32, _ => fun h => c32 (h.trans (by decide)) | 33, _ => fun h => c33 (h.trans (by decide)) | 34, _ => fun h => c34 (h.trans (by decide)) | 35, _ => fun h => c35 (h.trans (by decide)) | 36, _ => fun h => c36 (h.trans (by decide)) | 37, _ => fun h => c37 (h.trans (by decide)) | 38, _ => fun h => c38 (h.trans (by decide)) | 39, _ => fun h => c39 (h.trans (by decide)) | 40, _ => fun h => c40 (h.trans (by decide)) | 41, _ => fun h => c41 (h.trans (by decide)) | 42, _ => fun h => c42 (h.trans (by decide)) | 43, _ => fun h => c43 (h.trans (by decide)) | 44, _ => fun h => c44 (h.trans (by decide)) | 45, _ => fun h => c45 (h.trans (by decide)) | 46, _ => fun h => c46 (h.trans (by decide)) | 47, _ => fun h => c47 (h.trans (by decide)) | 48, _ => fun h => c48 (h.trans (by decide)) | 49, _ => fun h => c49 (h.trans (by decide)) | 50, _ => fun h => c50 (h.trans (by decide)) | k + 51, hk => absurd hk (by omega))) (by decide) ?_
                                                                                                            refine v_iinc (v := _ + (6 : Int32)) 3 dL_law_1641 rfl rfl (by decide) rfl ?_
                                                                                                            replace hh := lt_of hh
                                                                                                            refine v_goto (tgt := 18) dL_law_1644 (by decide) ?_
                                                                                                            exact v_sub [1, 2, 3, 0] rfl (ih (cc0) (ss0) (by omega) (by omega) _ _ hh)
