def f_X9_isBelow (N : Nat) (s : Hp) (x0 x1 : Int32) : Option (Int32 × Hp) :=
 if x0 < 0 then (
  some (0, s))
 else (
  if x1 ≤ x0 then (
   some (0, s))
  else (
   some (1, s)))
def f_X4_add (N : Nat) (s : Hp) (x1 x2 : Int32) : Option (Int32 × Hp) :=
 if (s 1 2) < 6 then (
  ck (inR (s 1 2) 6) (sb (hset s 2 (ix (s 1 2)) x1) fun s1 =>
  ck (inR (s1 1 2) 6) (sb (hset s1 3 (ix (s1 1 2)) x2) fun s2 =>
  sb (hset s2 1 2 ((s2 1 2) + 1)) fun s3 =>
  some ((s3 1 2) - 1, s3))))
 else (
  some ((-1), s))
def f_X9_post (N : Nat) (s : Hp) (x1 x2 : Int32) : Option (Int32 × Hp) :=
 bd (f_X9_isBelow N s x1 32) fun v2 s1 =>
 if v2 = 0 then (
  some ((-1), s1))
 else (
  bd (f_X9_isBelow N s1 x2 32) fun v4 s3 =>
  if v4 = 0 then (
   some ((-1), s3))
  else (
   if (s3 1 2) < 6 then (
    bd (f_X4_add N s3 x1 x2) fun v6 s5 =>
    some (v6, s5))
   else (
    some ((-1), s3))))
def f_X9_isStretch (N : Nat) (s : Hp) (x0 x1 : Int32) : Option (Int32 × Hp) :=
 if x0 < 0 then (
  some (0, s))
 else (
  if x1 < x0 then (
   some (0, s))
  else (
   if 10000 ≤ x1 then (
    some (0, s))
   else (
    some (1, s))))
def f_X9_isHearing (N : Nat) (s : Hp) (x1 x2 x3 x4 : Int32) : Option (Int32 × Hp) :=
 bd (f_X9_isBelow N s x1 (s 1 2)) fun v2 s1 =>
 if v2 = 0 then (
  some (0, s1))
 else (
  bd (f_X9_isBelow N s1 x2 16) fun v4 s3 =>
  if v4 = 0 then (
   some (0, s3))
  else (
   bd (f_X9_isStretch N s3 x3 x4) fun v6 s5 =>
   if v6 = 0 then (
    some (0, s5))
   else (
    some (1, s5))))
def f_X7_add (N : Nat) (s : Hp) (x1 x2 x3 x4 : Int32) : Option (Int32 × Hp) :=
 if (s 4 4) < 100 then (
  ck (inR (s 4 4) 100) (sb (hset s 5 (ix (s 4 4)) x1) fun s1 =>
  ck (inR (s1 4 4) 100) (sb (hset s1 6 (ix (s1 4 4)) x2) fun s2 =>
  ck (inR (s2 4 4) 100) (sb (hset s2 7 (ix (s2 4 4)) x3) fun s3 =>
  ck (inR (s3 4 4) 100) (sb (hset s3 8 (ix (s3 4 4)) x4) fun s4 =>
  sb (hset s4 4 4 ((s4 4 4) + 1)) fun s5 =>
  some ((s5 4 4) - 1, s5))))))
 else (
  some ((-1), s))
def f_X9_listened (N : Nat) (s : Hp) (x1 x2 x3 x4 : Int32) : Option (Int32 × Hp) :=
 bd (f_X9_isHearing N s x1 x2 x3 x4) fun v2 s1 =>
 if v2 = 0 then (
  some ((-1), s1))
 else (
  if (s1 4 4) < 100 then (
   bd (f_X7_add N s1 x1 x2 x3 x4) fun v4 s3 =>
   some (v4 + 1, s3))
  else (
   some ((-1), s1)))
def f_X7_openBehind_64 (N : Nat) (k6 : Hp → Int32 → Int32 → Int32 → Int32 → Int32 → Option (Int32 × Hp)) (s : Hp) (x1 x2 x3 x4 x5 : Int32) : Option (Int32 × Hp) :=
 vb (x5 + 1) fun y2 =>
 k6 s x1 x2 x3 x4 y2
def f_X7_openBehind_6 (N : Nat) (k6 : Hp → Int32 → Int32 → Int32 → Int32 → Int32 → Option (Int32 × Hp)) (s : Hp) (x1 x2 x3 x4 x5 : Int32) : Option (Int32 × Hp) :=
 if (s 4 4) ≤ x5 then (
  some (x4, s))
 else (
  ck (inR x5 100) (
  if (s 5 (ix x5)) = x1 then (
   ck (inR x5 100) (
   if (s 6 (ix x5)) = x2 then (
    ck (inR x5 100) (
    if x3 < (s 7 (ix x5)) then (
     f_X7_openBehind_64 N k6 s x1 x2 x3 x4 x5)
    else (
     ck (inR x5 100) (
     vb (imax x4 ((s 8 (ix x5)) + 1)) fun y1 =>
     f_X7_openBehind_64 N k6 s x1 x2 x3 y1 x5))))
   else (
    f_X7_openBehind_64 N k6 s x1 x2 x3 x4 x5)))
  else (
   f_X7_openBehind_64 N k6 s x1 x2 x3 x4 x5)))
def l_X7_openBehind_6 (N : Nat) : Hp → Int32 → Int32 → Int32 → Int32 → Int32 → Option (Int32 × Hp) := lp (fun _ _ _ _ _ _ => none) (f_X7_openBehind_6 N) N
def f_X7_openBehind (N : Nat) (s : Hp) (x1 x2 x3 : Int32) : Option (Int32 × Hp) :=
 l_X7_openBehind_6 N s x1 x2 x3 x3 0
def f_X7_holdsEach_38 (N : Nat) (s : Hp) (x4 x5 : Int32) : Option (Int32 × Hp) :=
 if x5 ≤ x4 then (
  some (0, s))
 else (
  some (1, s))
def f_X7_holdsEach_6 (N : Nat) (k6 : Hp → Int32 → Int32 → Int32 → Int32 → Int32 → Option (Int32 × Hp)) (s : Hp) (x1 x2 x4 x5 x6 : Int32) : Option (Int32 × Hp) :=
 if (s 4 4) ≤ x6 then (
  f_X7_holdsEach_38 N s x4 x5)
 else (
  if x4 < x5 then (
   f_X7_holdsEach_38 N s x4 x5)
  else (
   bd (f_X7_openBehind N s x1 x2 x5) fun v2 s1 =>
   vb (x6 + 1) fun y3 =>
   k6 s1 x1 x2 x4 v2 y3))
def l_X7_holdsEach_6 (N : Nat) : Hp → Int32 → Int32 → Int32 → Int32 → Int32 → Option (Int32 × Hp) := lp (fun _ _ _ _ _ _ => none) (f_X7_holdsEach_6 N) N
def f_X7_holdsEach (N : Nat) (s : Hp) (x1 x2 x3 x4 : Int32) : Option (Int32 × Hp) :=
 l_X7_holdsEach_6 N s x1 x2 x4 x3 0
def f_X7_add_b (N : Nat) (s : Hp) (x1 x2 x3 x4 : Int32) : Option (Int32 × Hp) :=
 if (s 10 4) < 60 then (
  ck (inR (s 10 4) 60) (sb (hset s 11 (ix (s 10 4)) x1) fun s1 =>
  ck (inR (s1 10 4) 60) (sb (hset s1 12 (ix (s1 10 4)) x2) fun s2 =>
  ck (inR (s2 10 4) 60) (sb (hset s2 13 (ix (s2 10 4)) x3) fun s3 =>
  ck (inR (s3 10 4) 60) (sb (hset s3 14 (ix (s3 10 4)) x4) fun s4 =>
  sb (hset s4 10 4 ((s4 10 4) + 1)) fun s5 =>
  some ((s5 10 4) - 1, s5))))))
 else (
  some ((-1), s))
def f_X2_add (N : Nat) (s : Hp) (x1 x2 x3 x4 x5 : Int32) : Option (Int32 × Hp) :=
 bd (f_X7_add_b N s x1 x2 x3 x4) fun v2 s1 =>
 if v2 = (-1) then (
  some (v2, s1))
 else (
  ck (inR v2 60) (sb (hset s1 15 (ix v2) x5) fun s3 =>
  some (v2, s3)))
def f_X0_giveNumbers_62 (N : Nat) (k7 : Hp → Int32 → Int32 → Option (Int32 × Hp)) (s : Hp) (x1 x2 : Int32) : Option (Int32 × Hp) :=
 vb (x2 + 1) fun y5 =>
 k7 s x1 y5
def f_X0_giveNumbers_7 (N : Nat) (k7 : Hp → Int32 → Int32 → Option (Int32 × Hp)) (s : Hp) (x1 x2 : Int32) : Option (Int32 × Hp) :=
 if x1 ≤ x2 then (
  some (0, s))
 else (
  ck (inR x2 60) (
  if (s 19 (ix x2)) = x2 then (
   ck (inR x2 60) (sb (hset s 20 (ix x2) (s 18 4)) fun s3 =>
   sb (hset s3 18 4 ((s3 18 4) + 1)) fun s4 =>
   f_X0_giveNumbers_62 N k7 s4 x1 x2))
  else (
   ck (inR x2 60) (
   ck (inR (s 19 (ix x2)) 60) (
   ck (inR x2 60) (sb (hset s 20 (ix x2) (s 20 (ix (s 19 (ix x2))))) fun s2 =>
   f_X0_giveNumbers_62 N k7 s2 x1 x2))))))
def l_X0_giveNumbers_7 (N : Nat) : Hp → Int32 → Int32 → Option (Int32 × Hp) := lp (fun _ _ _ => none) (f_X0_giveNumbers_7 N) N
def f_X0_giveNumbers (N : Nat) (s : Hp) (x1 : Int32) : Option (Int32 × Hp) :=
 sb (hset s 18 4 0) fun s1 =>
 l_X0_giveNumbers_7 N s1 x1 0
def f_X2_areJoined (N : Nat) (s : Hp) (x1 x2 x3 x4 : Int32) : Option (Int32 × Hp) :=
 ck (inR x1 60) (
 ck (inR x2 60) (
 if (s 12 (ix x1)) = (s 12 (ix x2)) then (
  ck (inR x1 60) (
  ck (inR x2 60) (
  if x3 < (iabs ((s 15 (ix x1)) - (s 15 (ix x2)))) then (
   some (0, s))
  else (
   ck (inR x1 60) (
   ck (inR x2 60) (
   if x4 < ((s 13 (ix x1)) - (s 14 (ix x2))) then (
    some (0, s))
   else (
    ck (inR x2 60) (
    ck (inR x1 60) (
    if x4 < ((s 13 (ix x2)) - (s 14 (ix x1))) then (
     some (0, s))
    else (
     some (1, s)))))))))))
 else (
  some (0, s))))
def f_X0_unite_62 (N : Nat) (k36 : Hp → Int32 → Int32 → Int32 → Int32 → Option (Int32 × Hp)) (s : Hp) (x1 x3 x4 x5 : Int32) : Option (Int32 × Hp) :=
 vb (x5 + 1) fun y4 =>
 k36 s x1 x3 x4 y4
def f_X0_unite_36 (N : Nat) (k36 : Hp → Int32 → Int32 → Int32 → Int32 → Option (Int32 × Hp)) (s : Hp) (x1 x3 x4 x5 : Int32) : Option (Int32 × Hp) :=
 if x1 < x5 then (
  some (0, s))
 else (
  ck (inR x5 60) (
  if (s 19 (ix x5)) = x4 then (
   ck (inR x5 60) (sb (hset s 19 (ix x5) x3) fun s3 =>
   f_X0_unite_62 N k36 s3 x1 x3 x4 x5))
  else (
   f_X0_unite_62 N k36 s x1 x3 x4 x5)))
def l_X0_unite_36 (N : Nat) : Hp → Int32 → Int32 → Int32 → Int32 → Option (Int32 × Hp) := lp (fun _ _ _ _ _ => none) (f_X0_unite_36 N) N
def f_X0_unite (N : Nat) (s : Hp) (x1 x2 : Int32) : Option (Int32 × Hp) :=
 ck (inR x1 60) (
 ck (inR x2 60) (
 vb (imin (s 19 (ix x1)) (s 19 (ix x2))) fun y1 =>
 ck (inR x1 60) (
 ck (inR x2 60) (
 vb (imax (s 19 (ix x1)) (s 19 (ix x2))) fun y2 =>
 l_X0_unite_36 N s x1 y1 y2 0))))
def f_X0_gather_65 (N : Nat) (k2 : Hp → Int32 → Option (Int32 × Hp)) (k22 : Hp → Int32 → Int32 → Option (Int32 × Hp)) (s : Hp) (x2 x3 : Int32) : Option (Int32 × Hp) :=
 vb (x3 + 1) fun y9 =>
 k22 s x2 y9
def f_X0_gather_22 (N : Nat) (k2 : Hp → Int32 → Option (Int32 × Hp)) (k22 : Hp → Int32 → Int32 → Option (Int32 × Hp)) (s : Hp) (x2 x3 : Int32) : Option (Int32 × Hp) :=
 if x2 ≤ x3 then (
  vb (x2 + 1) fun y4 =>
  k2 s y4)
 else (
  ck (inR x2 60) (
  ck (inR x3 60) (
  if (s 19 (ix x2)) = (s 19 (ix x3)) then (
   f_X0_gather_65 N k2 k22 s x2 x3)
  else (
   bd (f_X2_areJoined N s x2 x3 (s 18 2) (s 18 3)) fun v6 s5 =>
   if v6 = 0 then (
    f_X0_gather_65 N k2 k22 s5 x2 x3)
   else (
    bd (f_X0_unite N s5 x2 x3) fun v8 s7 =>
    f_X0_gather_65 N k2 k22 s7 x2 x3)))))
def l_X0_gather_22 (N : Nat) (k2 : Hp → Int32 → Option (Int32 × Hp)) : Hp → Int32 → Int32 → Option (Int32 × Hp) := lp (fun _ _ _ => none) (f_X0_gather_22 N k2) N
def f_X0_gather_2 (N : Nat) (k2 : Hp → Int32 → Option (Int32 × Hp)) (s : Hp) (x2 : Int32) : Option (Int32 × Hp) :=
 if (s 10 4) ≤ x2 then (
  bd (f_X0_giveNumbers N s (s 10 4)) fun v2 s1 =>
  some (0, s1))
 else (
  ck (inR x2 60) (sb (hset s 19 (ix x2) x2) fun s3 =>
  l_X0_gather_22 N k2 s3 x2 0))
def l_X0_gather_2 (N : Nat) : Hp → Int32 → Option (Int32 × Hp) := lp (fun _ _ => none) (f_X0_gather_2 N) N
def f_X0_gather (N : Nat) (s : Hp) : Option (Int32 × Hp) :=
 l_X0_gather_2 N s 0
def f_X9_mark (N : Nat) (s : Hp) (x1 x2 x3 x4 x5 : Int32) : Option (Int32 × Hp) :=
 bd (f_X9_isHearing N s x1 x2 x3 x4) fun v2 s1 =>
 if v2 = 0 then (
  some ((-1), s1))
 else (
  bd (f_X9_isBelow N s1 x5 1000) fun v4 s3 =>
  if v4 = 0 then (
   some ((-1), s3))
  else (
   if 60 ≤ (s3 10 4) then (
    some ((-1), s3))
   else (
    bd (f_X7_holdsEach N s3 x1 x2 x3 x4) fun v6 s5 =>
    if v6 = 0 then (
     some ((-1), s5))
    else (
     bd (f_X2_add N s5 x1 x2 x3 x4 x5) fun v8 s7 =>
     bd (f_X0_gather N s7) fun v10 s9 =>
     some (v8, s9)))))
def f_X9_isSide (N : Nat) (s : Hp) (x0 : Int32) : Option (Int32 × Hp) :=
 if x0 < (-100) then (
  some (0, s))
 else (
  if 100 < x0 then (
   some (0, s))
  else (
   some (1, s)))
def f_X2_clearFields_28 (N : Nat) (k28 : Hp → Int32 → Int32 → Option (Int32 × Hp)) (s : Hp) (x1 x2 : Int32) : Option (Int32 × Hp) :=
 if 32 ≤ x2 then (
  some (0, s))
 else (
  ck (inR x1 60) (
  ck (inR x2 32) (sb (hset s (58 + ix x1) (ix x2) 0) fun s4 =>
  vb (x2 + 1) fun y5 =>
  k28 s4 x1 y5)))
def l_X2_clearFields_28 (N : Nat) : Hp → Int32 → Int32 → Option (Int32 × Hp) := lp (fun _ _ _ => none) (f_X2_clearFields_28 N) N
def f_X2_clearFields_26 (N : Nat) (s : Hp) (x1 : Int32) : Option (Int32 × Hp) :=
 l_X2_clearFields_28 N s x1 0
def f_X2_clearFields (N : Nat) (s : Hp) (x1 : Int32) : Option (Int32 × Hp) :=
 ck (inR x1 60) (
 if (s 16 (ix x1)) = 0 then (
  ck (inR x1 60) (sb (hset s 16 (ix x1) 1) fun s1 =>
  sb (hset s1 9 4 ((s1 9 4) + 1)) fun s2 =>
  f_X2_clearFields_26 N s2 x1))
 else (
  f_X2_clearFields_26 N s x1))
def f_X2_addField (N : Nat) (s : Hp) (x1 x2 : Int32) : Option (Int32 × Hp) :=
 ck (inR x1 60) (
 ck (inR (x2 / 32) 32) (
 ck (inR (x2 / 32) 32) (sb (hset s (58 + ix x1) (ix (x2 / 32)) ((s (58 + ix x1) (ix (x2 / 32))) ||| (1 <<< ((irm x2 32) &&& 31)))) fun s2 =>
 some (0, s2))))
def f_X9_wedge_166 (N : Nat) (k86 : Hp → Int32 → Int32 → Int32 → Int32 → Int32 → Int32 → Int32 → Option (Int32 × Hp)) (s : Hp) (x1 x2 x3 x4 x5 x6 x7 : Int32) : Option (Int32 × Hp) :=
 vb (x7 + 1) fun y18 =>
 k86 s x1 x2 x3 x4 x5 x6 y18
def f_X9_wedge_86 (N : Nat) (k86 : Hp → Int32 → Int32 → Int32 → Int32 → Int32 → Int32 → Int32 → Option (Int32 × Hp)) (s : Hp) (x1 x2 x3 x4 x5 x6 x7 : Int32) : Option (Int32 × Hp) :=
 if 1024 ≤ x7 then (
  some (1, s))
 else (
  ck (inR x6 6) (
  vb ((irm x7 32) - (s 2 (ix x6))) fun y14 =>
  ck (inR x6 6) (
  vb ((x7 / 32) - (s 3 (ix x6))) fun y15 =>
  if ((x2 * y15) - (x3 * y14)) < 0 then (
   f_X9_wedge_166 N k86 s x1 x2 x3 x4 x5 x6 x7)
  else (
   if ((y14 * x5) - (y15 * x4)) < 0 then (
    f_X9_wedge_166 N k86 s x1 x2 x3 x4 x5 x6 x7)
   else (
    bd (f_X2_addField N s x1 x7) fun v17 s16 =>
    f_X9_wedge_166 N k86 s16 x1 x2 x3 x4 x5 x6 x7)))))
def l_X9_wedge_86 (N : Nat) : Hp → Int32 → Int32 → Int32 → Int32 → Int32 → Int32 → Int32 → Option (Int32 × Hp) := lp (fun _ _ _ _ _ _ _ _ => none) (f_X9_wedge_86 N) N
def f_X9_wedge (N : Nat) (s : Hp) (x1 x2 x3 x4 x5 : Int32) : Option (Int32 × Hp) :=
 bd (f_X9_isBelow N s x1 (s 10 4)) fun v2 s1 =>
 if v2 = 0 then (
  some (0, s1))
 else (
  bd (f_X9_isSide N s1 x2) fun v4 s3 =>
  if v4 = 0 then (
   some (0, s3))
  else (
   bd (f_X9_isSide N s3 x3) fun v6 s5 =>
   if v6 = 0 then (
    some (0, s5))
   else (
    bd (f_X9_isSide N s5 x4) fun v8 s7 =>
    if v8 = 0 then (
     some (0, s7))
    else (
     bd (f_X9_isSide N s7 x5) fun v10 s9 =>
     if v10 = 0 then (
      some (0, s9))
     else (
      if 0 < ((x2 * x5) - (x3 * x4)) then (
       ck (inR x1 60) (
       vb (s9 11 (ix x1)) fun y11 =>
       bd (f_X2_clearFields N s9 x1) fun v13 s12 =>
       l_X9_wedge_86 N s12 x1 x2 x3 x4 x5 y11 0))
      else (
       some (0, s9)))))))
def f_X9_joins (N : Nat) (s : Hp) (x1 x2 : Int32) : Option (Int32 × Hp) :=
 bd (f_X9_isBelow N s x1 100) fun v2 s1 =>
 if v2 = 0 then (
  some (0, s1))
 else (
  bd (f_X9_isBelow N s1 x2 1000) fun v4 s3 =>
  if v4 = 0 then (
   some (0, s3))
  else (
   sb (hset s3 18 2 x1) fun s5 =>
   sb (hset s5 18 3 x2) fun s6 =>
   bd (f_X0_gather N s6) fun v8 s7 =>
   some (1, s7)))
def f_X9_senders (N : Nat) (s : Hp) : Option (Int32 × Hp) :=
 some (s 18 4, s)
def f_X9_senderOf (N : Nat) (s : Hp) (x1 : Int32) : Option (Int32 × Hp) :=
 bd (f_X9_isBelow N s x1 (s 10 4)) fun v2 s1 =>
 if v2 = 0 then (
  some ((-1), s1))
 else (
  ck (inR x1 60) (
  some (s1 20 (ix x1), s1)))
def f_X6_add_142 (N : Nat) (k142 : Hp → Int32 → Int32 → Option (Int32 × Hp)) (s : Hp) (x2 x3 : Int32) : Option (Int32 × Hp) :=
 ck (inR x2 60) (
 if (s 16 (ix x2)) = 0 then (
  some (0, s))
 else (
  if 32 ≤ x3 then (
   some (0, s))
  else (
   ck (inR x3 32) (
   ck (inR x2 60) (
   ck (inR x3 32) (
   ck (inR x3 32) (sb (hset s 23 (ix x3) ((s 23 (ix x3)) &&& (s (58 + ix x2) (ix x3)))) fun s10 =>
   vb (x3 + 1) fun y11 =>
   k142 s10 x2 y11)))))))
def l_X6_add_142 (N : Nat) : Hp → Int32 → Int32 → Option (Int32 × Hp) := lp (fun _ _ _ => none) (f_X6_add_142 N) N
def f_X6_add (N : Nat) (s : Hp) (x2 : Int32) : Option (Int32 × Hp) :=
 if (s 21 2) < 60 then (
  ck (inR (s 21 2) 60) (sb (hset s 22 (ix (s 21 2)) x2) fun s1 =>
  sb (hset s1 21 2 ((s1 21 2) + 1)) fun s2 =>
  ck (inR x2 60) (
  sb (hset s2 21 3 (s2 12 (ix x2))) fun s3 =>
  ck (inR x2 60) (
  sb (hset s3 21 4 (imin (s3 21 4) (s3 13 (ix x2)))) fun s4 =>
  ck (inR x2 60) (
  sb (hset s4 21 5 (imax (s4 21 5) (s4 14 (ix x2)))) fun s5 =>
  ck (inR x2 60) (
  sb (hset s5 21 6 (imin (s5 21 6) (s5 15 (ix x2)))) fun s6 =>
  ck (inR x2 60) (
  sb (hset s6 21 7 (imax (s6 21 7) (s6 15 (ix x2)))) fun s7 =>
  ck (inR x2 60) (
  sb (hset s7 21 8 ((s7 21 8) ||| (1 <<< ((s7 11 (ix x2)) &&& 31)))) fun s8 =>
  l_X6_add_142 N s8 x2 0))))))))
 else (
  some (0, s))
def f_X6_draw_93 (N : Nat) (k66 : Hp → Int32 → Int32 → Option (Int32 × Hp)) (s : Hp) (x3 x4 : Int32) : Option (Int32 × Hp) :=
 vb (x4 + 1) fun y12 =>
 k66 s x3 y12
def f_X6_draw_66 (N : Nat) (k66 : Hp → Int32 → Int32 → Option (Int32 × Hp)) (s : Hp) (x3 x4 : Int32) : Option (Int32 × Hp) :=
 if (s 10 4) ≤ x4 then (
  some (0, s))
 else (
  ck (inR x4 60) (
  if (s 20 (ix x4)) = x3 then (
   bd (f_X6_add N s x4) fun v11 s10 =>
   f_X6_draw_93 N k66 s10 x3 x4)
  else (
   f_X6_draw_93 N k66 s x3 x4)))
def l_X6_draw_66 (N : Nat) : Hp → Int32 → Int32 → Option (Int32 × Hp) := lp (fun _ _ _ => none) (f_X6_draw_66 N) N
def f_X6_draw_42 (N : Nat) (k42 : Hp → Int32 → Int32 → Option (Int32 × Hp)) (s : Hp) (x3 x4 : Int32) : Option (Int32 × Hp) :=
 if 32 ≤ x4 then (
  l_X6_draw_66 N s x3 0)
 else (
  ck (inR x4 32) (sb (hset s 23 (ix x4) (-1)) fun s8 =>
  vb (x4 + 1) fun y9 =>
  k42 s8 x3 y9))
def l_X6_draw_42 (N : Nat) : Hp → Int32 → Int32 → Option (Int32 × Hp) := lp (fun _ _ _ => none) (f_X6_draw_42 N) N
def f_X6_draw (N : Nat) (s : Hp) (x3 : Int32) : Option (Int32 × Hp) :=
 sb (hset s 21 2 0) fun s1 =>
 sb (hset s1 21 3 (-1)) fun s2 =>
 sb (hset s2 21 4 10000) fun s3 =>
 sb (hset s3 21 5 (-1)) fun s4 =>
 sb (hset s4 21 6 1000) fun s5 =>
 sb (hset s5 21 7 (-1)) fun s6 =>
 sb (hset s6 21 8 0) fun s7 =>
 l_X6_draw_42 N s7 x3 0
def f_J6_bitCount_0f7a4 (N : Nat) (s : Hp) (x0 : Int32) : Option (Int32 × Hp) :=
 vb (x0 - ((ushr x0 1) &&& 1431655765)) fun y1 =>
 vb ((y1 &&& 858993459) + ((ushr y1 2) &&& 858993459)) fun y2 =>
 vb ((y2 + (ushr y2 4)) &&& 252645135) fun y3 =>
 vb (y3 + (ushr y3 8)) fun y4 =>
 vb (y4 + (ushr y4 16)) fun y5 =>
 some (y5 &&& 63, s)
def f_X6_countFields_4 (N : Nat) (k4 : Hp → Int32 → Int32 → Option (Int32 × Hp)) (s : Hp) (x1 x2 : Int32) : Option (Int32 × Hp) :=
 if 32 ≤ x2 then (
  some (x1, s))
 else (
  ck (inR x2 32) (
  bd (f_J6_bitCount_0f7a4 N s (s 23 (ix x2))) fun v2 s1 =>
  vb (x1 + v2) fun y3 =>
  vb (x2 + 1) fun y4 =>
  k4 s1 y3 y4))
def l_X6_countFields_4 (N : Nat) : Hp → Int32 → Int32 → Option (Int32 × Hp) := lp (fun _ _ _ => none) (f_X6_countFields_4 N) N
def f_X6_countFields (N : Nat) (s : Hp) : Option (Int32 × Hp) :=
 l_X6_countFields_4 N s 0 0
def f_X9_sender (N : Nat) (s : Hp) (x1 x2 : Int32) : Option (Int32 × Hp) :=
 bd (f_X9_isBelow N s x1 (s 18 4)) fun v2 s1 =>
 if v2 = 0 then (
  some ((-1), s1))
 else (
  bd (f_X6_draw N s1 x1) fun v4 s3 =>
  if x2 = 0 then (
   ck (inR 0 60) (
   some (s3 22 (ix 0), s3)))
  else (
   if x2 = 1 then (
    some (s3 21 2, s3))
   else (
    if x2 = 2 then (
     some (s3 21 3, s3))
    else (
     if x2 = 3 then (
      some (s3 21 4, s3))
     else (
      if x2 = 4 then (
       some (s3 21 5, s3))
      else (
       if x2 = 5 then (
        some (s3 21 6, s3))
       else (
        if x2 = 6 then (
         some (s3 21 7, s3))
        else (
         if x2 = 7 then (
          bd (f_X6_countFields N s3) fun v6 s5 =>
          some (v6, s5))
         else (
          if x2 = 8 then (
           bd (f_J6_bitCount_0f7a4 N s3 (s3 21 8)) fun v8 s7 =>
           some (v8, s7))
          else (
           some ((-1), s3)))))))))))
def f_X6_has (N : Nat) (s : Hp) (x1 : Int32) : Option (Int32 × Hp) :=
 ck (inR (x1 / 32) 32) (
 if (((s 23 (ix (x1 / 32))) >>> ((irm x1 32) &&& 31)) &&& 1) = 0 then (
  some (0, s))
 else (
  some (1, s)))
def f_X6_fieldAt_29 (N : Nat) (k4 : Hp → Int32 → Int32 → Int32 → Option (Int32 × Hp)) (s : Hp) (x1 x2 x3 : Int32) : Option (Int32 × Hp) :=
 vb (x3 + 1) fun y4 =>
 k4 s x1 x2 y4
def f_X6_fieldAt_4 (N : Nat) (k4 : Hp → Int32 → Int32 → Int32 → Option (Int32 × Hp)) (s : Hp) (x1 x2 x3 : Int32) : Option (Int32 × Hp) :=
 if 1024 ≤ x3 then (
  some ((-1), s))
 else (
  bd (f_X6_has N s x3) fun v2 s1 =>
  if v2 = 0 then (
   f_X6_fieldAt_29 N k4 s1 x1 x2 x3)
  else (
   if x2 = x1 then (
    some (x3, s1))
   else (
    vb (x2 + 1) fun y3 =>
    f_X6_fieldAt_29 N k4 s1 x1 y3 x3)))
def l_X6_fieldAt_4 (N : Nat) : Hp → Int32 → Int32 → Int32 → Option (Int32 × Hp) := lp (fun _ _ _ _ => none) (f_X6_fieldAt_4 N) N
def f_X6_fieldAt (N : Nat) (s : Hp) (x1 : Int32) : Option (Int32 × Hp) :=
 l_X6_fieldAt_4 N s x1 0 0
def f_X9_place (N : Nat) (s : Hp) (x1 x2 : Int32) : Option (Int32 × Hp) :=
 bd (f_X9_isBelow N s x1 (s 18 4)) fun v2 s1 =>
 if v2 = 0 then (
  some ((-1), s1))
 else (
  bd (f_X9_isBelow N s1 x2 1024) fun v4 s3 =>
  if v4 = 0 then (
   some ((-1), s3))
  else (
   bd (f_X6_draw N s3 x1) fun v6 s5 =>
   bd (f_X6_fieldAt N s5 x2) fun v8 s7 =>
   some (v8, s7)))
def f_X6_edge_85 (N : Nat) (k5 : Hp → Int32 → Int32 → Int32 → Int32 → Option (Int32 × Hp)) (s : Hp) (x1 x2 x3 x4 : Int32) : Option (Int32 × Hp) :=
 vb (x4 + 1) fun y3 =>
 k5 s x1 x2 x3 y3
def f_X6_edge_82 (N : Nat) (k5 : Hp → Int32 → Int32 → Int32 → Int32 → Option (Int32 × Hp)) (s : Hp) (x1 x2 x4 x5 : Int32) : Option (Int32 × Hp) :=
 f_X6_edge_85 N k5 s x1 x2 x5 x4
def f_X6_edge_61 (N : Nat) (k5 : Hp → Int32 → Int32 → Int32 → Int32 → Option (Int32 × Hp)) (s : Hp) (x1 x2 x3 x4 x5 t0 : Int32) : Option (Int32 × Hp) :=
 bd (f_X6_has N s x4) fun v2 s1 =>
 if v2 = 0 then (
  f_X6_edge_85 N k5 s1 x1 x2 x3 x4)
 else (
  if x3 = (-1) then (
   f_X6_edge_82 N k5 s1 x1 x2 x4 x5)
  else (
   if t0 = 0 then (
    f_X6_edge_85 N k5 s1 x1 x2 x3 x4)
   else (
    f_X6_edge_82 N k5 s1 x1 x2 x4 x5)))
def f_X6_edge_30 (N : Nat) (k5 : Hp → Int32 → Int32 → Int32 → Int32 → Option (Int32 × Hp)) (s : Hp) (x1 x2 x3 x4 t0 : Int32) : Option (Int32 × Hp) :=
 if x2 = 0 then (
  if x3 ≤ t0 then (
   f_X6_edge_61 N k5 s x1 x2 x3 x4 t0 0)
  else (
   f_X6_edge_61 N k5 s x1 x2 x3 x4 t0 1))
 else (
  if t0 ≤ x3 then (
   f_X6_edge_61 N k5 s x1 x2 x3 x4 t0 0)
  else (
   f_X6_edge_61 N k5 s x1 x2 x3 x4 t0 1))
def f_X6_edge_5 (N : Nat) (k5 : Hp → Int32 → Int32 → Int32 → Int32 → Option (Int32 × Hp)) (s : Hp) (x1 x2 x3 x4 : Int32) : Option (Int32 × Hp) :=
 if 1024 ≤ x4 then (
  some (x3, s))
 else (
  if x1 = 0 then (
   f_X6_edge_30 N k5 s x1 x2 x3 x4 (irm x4 32))
  else (
   f_X6_edge_30 N k5 s x1 x2 x3 x4 (x4 / 32)))
def l_X6_edge_5 (N : Nat) : Hp → Int32 → Int32 → Int32 → Int32 → Option (Int32 × Hp) := lp (fun _ _ _ _ _ => none) (f_X6_edge_5 N) N
def f_X6_edge (N : Nat) (s : Hp) (x1 x2 : Int32) : Option (Int32 × Hp) :=
 l_X6_edge_5 N s x1 x2 (-1) 0
def f_X9_box_69 (N : Nat) (s : Hp) (t1 t2 : Int32) : Option (Int32 × Hp) :=
 bd (f_X6_edge N s t1 t2) fun v8 s7 =>
 some (v8, s7)
def f_X9_box_57 (N : Nat) (s : Hp) (x2 t1 : Int32) : Option (Int32 × Hp) :=
 if (irm x2 2) = 1 then (
  f_X9_box_69 N s t1 1)
 else (
  f_X9_box_69 N s t1 0)
def f_X9_box (N : Nat) (s : Hp) (x1 x2 : Int32) : Option (Int32 × Hp) :=
 bd (f_X9_isBelow N s x1 (s 18 4)) fun v2 s1 =>
 if v2 = 0 then (
  some ((-1), s1))
 else (
  bd (f_X9_isBelow N s1 x2 4) fun v4 s3 =>
  if v4 = 0 then (
   some ((-1), s3))
  else (
   bd (f_X6_draw N s3 x1) fun v6 s5 =>
   if x2 < 2 then (
    f_X9_box_57 N s5 x2 0)
   else (
    f_X9_box_57 N s5 x2 1)))
def f_X7_changeBehind_92 (N : Nat) (k6 : Hp → Int32 → Int32 → Int32 → Int32 → Option (Int32 × Hp)) (s : Hp) (x1 x2 x4 x5 : Int32) : Option (Int32 × Hp) :=
 vb (x5 + 1) fun y3 =>
 k6 s x1 x2 x4 y3
def f_X7_changeBehind_54 (N : Nat) (k6 : Hp → Int32 → Int32 → Int32 → Int32 → Option (Int32 × Hp)) (s : Hp) (x1 x2 x4 x5 : Int32) : Option (Int32 × Hp) :=
 ck (inR x5 100) (
 if (s 6 (ix x5)) = x1 then (
  ck (inR x5 100) (
  if (s 8 (ix x5)) < x2 then (
   f_X7_changeBehind_92 N k6 s x1 x2 x4 x5)
  else (
   ck (inR x5 100) (
   vb (imin x4 ((s 8 (ix x5)) + 1)) fun y2 =>
   f_X7_changeBehind_92 N k6 s x1 x2 y2 x5))))
 else (
  f_X7_changeBehind_92 N k6 s x1 x2 x4 x5))
def f_X7_changeBehind_6 (N : Nat) (k6 : Hp → Int32 → Int32 → Int32 → Int32 → Option (Int32 × Hp)) (s : Hp) (x1 x2 x4 x5 : Int32) : Option (Int32 × Hp) :=
 if (s 4 4) ≤ x5 then (
  some (x4, s))
 else (
  ck (inR x5 100) (
  if (s 6 (ix x5)) = x1 then (
   ck (inR x5 100) (
   if (s 7 (ix x5)) ≤ x2 then (
    f_X7_changeBehind_54 N k6 s x1 x2 x4 x5)
   else (
    ck (inR x5 100) (
    vb (imin x4 (s 7 (ix x5))) fun y1 =>
    f_X7_changeBehind_92 N k6 s x1 x2 y1 x5))))
  else (
   f_X7_changeBehind_54 N k6 s x1 x2 x4 x5)))
def l_X7_changeBehind_6 (N : Nat) : Hp → Int32 → Int32 → Int32 → Int32 → Option (Int32 × Hp) := lp (fun _ _ _ _ _ => none) (f_X7_changeBehind_6 N) N
def f_X7_changeBehind (N : Nat) (s : Hp) (x1 x2 x3 : Int32) : Option (Int32 × Hp) :=
 l_X7_changeBehind_6 N s x1 x2 x3 0
def f_X7_changeBehind_b_92 (N : Nat) (k6 : Hp → Int32 → Int32 → Int32 → Int32 → Option (Int32 × Hp)) (s : Hp) (x1 x2 x4 x5 : Int32) : Option (Int32 × Hp) :=
 vb (x5 + 1) fun y3 =>
 k6 s x1 x2 x4 y3
def f_X7_changeBehind_b_54 (N : Nat) (k6 : Hp → Int32 → Int32 → Int32 → Int32 → Option (Int32 × Hp)) (s : Hp) (x1 x2 x4 x5 : Int32) : Option (Int32 × Hp) :=
 ck (inR x5 60) (
 if (s 12 (ix x5)) = x1 then (
  ck (inR x5 60) (
  if (s 14 (ix x5)) < x2 then (
   f_X7_changeBehind_b_92 N k6 s x1 x2 x4 x5)
  else (
   ck (inR x5 60) (
   vb (imin x4 ((s 14 (ix x5)) + 1)) fun y2 =>
   f_X7_changeBehind_b_92 N k6 s x1 x2 y2 x5))))
 else (
  f_X7_changeBehind_b_92 N k6 s x1 x2 x4 x5))
def f_X7_changeBehind_b_6 (N : Nat) (k6 : Hp → Int32 → Int32 → Int32 → Int32 → Option (Int32 × Hp)) (s : Hp) (x1 x2 x4 x5 : Int32) : Option (Int32 × Hp) :=
 if (s 10 4) ≤ x5 then (
  some (x4, s))
 else (
  ck (inR x5 60) (
  if (s 12 (ix x5)) = x1 then (
   ck (inR x5 60) (
   if (s 13 (ix x5)) ≤ x2 then (
    f_X7_changeBehind_b_54 N k6 s x1 x2 x4 x5)
   else (
    ck (inR x5 60) (
    vb (imin x4 (s 13 (ix x5))) fun y1 =>
    f_X7_changeBehind_b_92 N k6 s x1 x2 y1 x5))))
  else (
   f_X7_changeBehind_b_54 N k6 s x1 x2 x4 x5)))
def l_X7_changeBehind_b_6 (N : Nat) : Hp → Int32 → Int32 → Int32 → Int32 → Option (Int32 × Hp) := lp (fun _ _ _ _ _ => none) (f_X7_changeBehind_b_6 N) N
def f_X7_changeBehind_b (N : Nat) (s : Hp) (x1 x2 x3 : Int32) : Option (Int32 × Hp) :=
 l_X7_changeBehind_b_6 N s x1 x2 x3 0
def f_X9_changeBehind (N : Nat) (s : Hp) (x1 x2 x3 : Int32) : Option (Int32 × Hp) :=
 bd (f_X7_changeBehind N s x1 x2 x3) fun v2 s1 =>
 bd (f_X7_changeBehind_b N s1 x1 x2 v2) fun v4 s3 =>
 some (v4, s3)
def f_X7_holds_42 (N : Nat) (k2 : Hp → Int32 → Int32 → Int32 → Option (Int32 × Hp)) (s : Hp) (x1 x2 x3 : Int32) : Option (Int32 × Hp) :=
 vb (x3 + 1) fun y1 =>
 k2 s x1 x2 y1
def f_X7_holds_2 (N : Nat) (k2 : Hp → Int32 → Int32 → Int32 → Option (Int32 × Hp)) (s : Hp) (x1 x2 x3 : Int32) : Option (Int32 × Hp) :=
 if (s 10 4) ≤ x3 then (
  some (0, s))
 else (
  ck (inR x3 60) (
  if (s 12 (ix x3)) = x1 then (
   ck (inR x3 60) (
   if x2 < (s 13 (ix x3)) then (
    f_X7_holds_42 N k2 s x1 x2 x3)
   else (
    ck (inR x3 60) (
    if (s 14 (ix x3)) < x2 then (
     f_X7_holds_42 N k2 s x1 x2 x3)
    else (
     some (1, s))))))
  else (
   f_X7_holds_42 N k2 s x1 x2 x3)))
def l_X7_holds_2 (N : Nat) : Hp → Int32 → Int32 → Int32 → Option (Int32 × Hp) := lp (fun _ _ _ _ => none) (f_X7_holds_2 N) N
def f_X7_holds (N : Nat) (s : Hp) (x1 x2 : Int32) : Option (Int32 × Hp) :=
 l_X7_holds_2 N s x1 x2 0
def f_X7_holds_b_42 (N : Nat) (k2 : Hp → Int32 → Int32 → Int32 → Option (Int32 × Hp)) (s : Hp) (x1 x2 x3 : Int32) : Option (Int32 × Hp) :=
 vb (x3 + 1) fun y1 =>
 k2 s x1 x2 y1
def f_X7_holds_b_2 (N : Nat) (k2 : Hp → Int32 → Int32 → Int32 → Option (Int32 × Hp)) (s : Hp) (x1 x2 x3 : Int32) : Option (Int32 × Hp) :=
 if (s 4 4) ≤ x3 then (
  some (0, s))
 else (
  ck (inR x3 100) (
  if (s 6 (ix x3)) = x1 then (
   ck (inR x3 100) (
   if x2 < (s 7 (ix x3)) then (
    f_X7_holds_b_42 N k2 s x1 x2 x3)
   else (
    ck (inR x3 100) (
    if (s 8 (ix x3)) < x2 then (
     f_X7_holds_b_42 N k2 s x1 x2 x3)
    else (
     some (1, s))))))
  else (
   f_X7_holds_b_42 N k2 s x1 x2 x3)))
def l_X7_holds_b_2 (N : Nat) : Hp → Int32 → Int32 → Int32 → Option (Int32 × Hp) := lp (fun _ _ _ _ => none) (f_X7_holds_b_2 N) N
def f_X7_holds_b (N : Nat) (s : Hp) (x1 x2 : Int32) : Option (Int32 × Hp) :=
 l_X7_holds_b_2 N s x1 x2 0
def f_X9_stateAt (N : Nat) (s : Hp) (x1 x2 : Int32) : Option (Int32 × Hp) :=
 bd (f_X7_holds N s x1 x2) fun v2 s1 =>
 if v2 = 0 then (
  bd (f_X7_holds_b N s1 x1 x2) fun v4 s3 =>
  if v4 = 0 then (
   some (2, s3))
  else (
   some (1, s3)))
 else (
  some (0, s1))
def f_X9_minutes_77 (N : Nat) (k37 : Hp → Int32 → Int32 → Int32 → Int32 → Int32 → Option (Int32 × Hp)) (s : Hp) (x1 x3 x4 x5 x6 x7 : Int32) : Option (Int32 × Hp) :=
 vb (imax (x7 + 1) x6) fun y12 =>
 k37 s x1 x3 x4 x5 y12
def f_X9_minutes_37 (N : Nat) (k37 : Hp → Int32 → Int32 → Int32 → Int32 → Int32 → Option (Int32 × Hp)) (s : Hp) (x1 x3 x4 x5 x7 : Int32) : Option (Int32 × Hp) :=
 if x3 < x7 then (
  some (x5, s))
 else (
  bd (f_X9_changeBehind N s x1 x7 (x3 + 1)) fun v8 s7 =>
  bd (f_X9_stateAt N s7 x1 x7) fun v10 s9 =>
  if v10 = x4 then (
   vb (x5 + (v8 - x7)) fun y11 =>
   f_X9_minutes_77 N k37 s9 x1 x3 x4 y11 v8 x7)
  else (
   f_X9_minutes_77 N k37 s9 x1 x3 x4 x5 v8 x7))
def l_X9_minutes_37 (N : Nat) : Hp → Int32 → Int32 → Int32 → Int32 → Int32 → Option (Int32 × Hp) := lp (fun _ _ _ _ _ _ => none) (f_X9_minutes_37 N) N
def f_X9_minutes (N : Nat) (s : Hp) (x1 x2 x3 x4 : Int32) : Option (Int32 × Hp) :=
 bd (f_X9_isBelow N s x1 16) fun v2 s1 =>
 if v2 = 0 then (
  some ((-1), s1))
 else (
  bd (f_X9_isStretch N s1 x2 x3) fun v4 s3 =>
  if v4 = 0 then (
   some ((-1), s3))
  else (
   bd (f_X9_isBelow N s3 x4 3) fun v6 s5 =>
   if v6 = 0 then (
    some ((-1), s5))
   else (
    l_X9_minutes_37 N s5 x1 x3 x4 0 x2)))
def f_X9_blind_69 (N : Nat) (k28 : Hp → Int32 → Int32 → Int32 → Int32 → Option (Int32 × Hp)) (s : Hp) (x1 x3 x4 x5 x6 : Int32) : Option (Int32 × Hp) :=
 vb (imax (x6 + 1) x5) fun y10 =>
 k28 s x1 x3 x4 y10
def f_X9_blind_28 (N : Nat) (k28 : Hp → Int32 → Int32 → Int32 → Int32 → Option (Int32 × Hp)) (s : Hp) (x1 x3 x4 x6 : Int32) : Option (Int32 × Hp) :=
 if x3 < x6 then (
  some (x4, s))
 else (
  bd (f_X9_changeBehind N s x1 x6 (x3 + 1)) fun v6 s5 =>
  bd (f_X9_stateAt N s5 x1 x6) fun v8 s7 =>
  if v8 = 2 then (
   vb (imax x4 (v6 - x6)) fun y9 =>
   f_X9_blind_69 N k28 s7 x1 x3 y9 v6 x6)
  else (
   f_X9_blind_69 N k28 s7 x1 x3 x4 v6 x6))
def l_X9_blind_28 (N : Nat) : Hp → Int32 → Int32 → Int32 → Int32 → Option (Int32 × Hp) := lp (fun _ _ _ _ _ => none) (f_X9_blind_28 N) N
def f_X9_blind (N : Nat) (s : Hp) (x1 x2 x3 : Int32) : Option (Int32 × Hp) :=
 bd (f_X9_isBelow N s x1 16) fun v2 s1 =>
 if v2 = 0 then (
  some ((-1), s1))
 else (
  bd (f_X9_isStretch N s1 x2 x3) fun v4 s3 =>
  if v4 = 0 then (
   some ((-1), s3))
  else (
   l_X9_blind_28 N s3 x1 x3 0 x2))
def f_X8_add_3 (N : Nat) (k3 : Hp → Int32 → Int32 → Option (Int32 × Hp)) (s : Hp) (x1 x2 : Int32) : Option (Int32 × Hp) :=
 if x2 < 0 then (
  some (0, s))
 else (
  if 100 ≤ (s 24 1) then (
   some (0, s))
  else (
   ck (inR (s 24 1) 100) (sb (hset s 25 (ix (s 24 1)) ((ushr x1 x2) &&& 255)) fun s1 =>
   sb (hset s1 24 1 ((s1 24 1) + 1)) fun s2 =>
   vb (x2 + (-8)) fun y3 =>
   k3 s2 x1 y3)))
def l_X8_add_3 (N : Nat) : Hp → Int32 → Int32 → Option (Int32 × Hp) := lp (fun _ _ _ => none) (f_X8_add_3 N) N
def f_X8_add (N : Nat) (s : Hp) (x1 : Int32) : Option (Int32 × Hp) :=
 l_X8_add_3 N s x1 24
def f_X9_feed (N : Nat) (s : Hp) (x1 x2 x3 x4 x5 : Int32) : Option (Int32 × Hp) :=
 if ((s 24 1) + 20) ≤ 100 then (
  bd (f_X8_add N s x1) fun v2 s1 =>
  bd (f_X8_add N s1 x2) fun v4 s3 =>
  bd (f_X8_add N s3 x3) fun v6 s5 =>
  bd (f_X8_add N s5 x4) fun v8 s7 =>
  bd (f_X8_add N s7 x5) fun v10 s9 =>
  some (s9 24 1, s9))
 else (
  some ((-1), s))
def f_X9_end (N : Nat) (s : Hp) (x1 : Int32) : Option (Int32 × Hp) :=
 if x1 < 0 then (
  some ((-1), s))
 else (
  if x1 ≤ (s 24 1) then (
   sb (hset s 24 1 x1) fun s1 =>
   some (x1, s1))
  else (
   some ((-1), s)))
def f_X8_kindOf_40 (N : Nat) (s : Hp) (x0 : Int32) : Option (Int32 × Hp) :=
 if x0 = 45 then (
  some (3, s))
 else (
  if x0 = 59 then (
   some (4, s))
  else (
   some (5, s)))
def f_X8_kindOf_26 (N : Nat) (s : Hp) (x0 : Int32) : Option (Int32 × Hp) :=
 if x0 < 48 then (
  f_X8_kindOf_40 N s x0)
 else (
  if 57 < x0 then (
   f_X8_kindOf_40 N s x0)
  else (
   some (2, s)))
def f_X8_kindOf_12 (N : Nat) (s : Hp) (x0 : Int32) : Option (Int32 × Hp) :=
 if x0 < 65 then (
  f_X8_kindOf_26 N s x0)
 else (
  if 90 < x0 then (
   f_X8_kindOf_26 N s x0)
  else (
   some (1, s)))
def f_X8_kindOf (N : Nat) (s : Hp) (x0 : Int32) : Option (Int32 × Hp) :=
 if x0 < 97 then (
  f_X8_kindOf_12 N s x0)
 else (
  if x0 ≤ 122 then (
   some (1, s))
  else (
   f_X8_kindOf_12 N s x0))
def f_X8_step_123 (N : Nat) (k123 : Hp → Int32 → Option (Int32 × Hp)) (s : Hp) (x1 : Int32) : Option (Int32 × Hp) :=
 if x1 = 0 then (
  some (0, s))
 else (
  if (s 24 1) ≤ (s 24 3) then (
   some (0, s))
  else (
   ck (inR (s 24 3) 100) (
   bd (f_X8_kindOf N s (s 25 (ix (s 24 3)))) fun v8 s7 =>
   if v8 = (s7 24 4) then (
    sb (hset s7 24 3 ((s7 24 3) + 1)) fun s9 =>
    k123 s9 x1)
   else (
    some (0, s7)))))
def l_X8_step_123 (N : Nat) : Hp → Int32 → Option (Int32 × Hp) := lp (fun _ _ => none) (f_X8_step_123 N) N
def f_X8_step_122 (N : Nat) (s : Hp) (t0 : Int32) : Option (Int32 × Hp) :=
 l_X8_step_123 N s t0
def f_X8_step_117 (N : Nat) (s : Hp) : Option (Int32 × Hp) :=
 f_X8_step_122 N s 1
def f_X8_step_98 (N : Nat) (s : Hp) (t1 : Int32) : Option (Int32 × Hp) :=
 sb (hset s 24 3 t1) fun s6 =>
 if (s6 24 4) = 1 then (
  f_X8_step_117 N s6)
 else (
  if (s6 24 4) = 2 then (
   f_X8_step_117 N s6)
  else (
   f_X8_step_122 N s6 0))
def f_X8_step_74 (N : Nat) (s : Hp) (t1 : Int32) : Option (Int32 × Hp) :=
 sb (hset s 24 4 t1) fun s5 =>
 if (s5 24 4) = 0 then (
  f_X8_step_98 N s5 (s5 24 2))
 else (
  f_X8_step_98 N s5 ((s5 24 2) + 1))
def f_X8_step_46 (N : Nat) (s : Hp) : Option (Int32 × Hp) :=
 if (s 24 1) ≤ (s 24 2) then (
  f_X8_step_74 N s 0)
 else (
  ck (inR (s 24 2) 100) (
  bd (f_X8_kindOf N s (s 25 (ix (s 24 2)))) fun v4 s3 =>
  f_X8_step_74 N s3 v4))
def f_X8_step_8 (N : Nat) (k8 : Hp → Option (Int32 × Hp)) (s : Hp) : Option (Int32 × Hp) :=
 if (s 24 1) ≤ (s 24 2) then (
  f_X8_step_46 N s)
 else (
  ck (inR (s 24 2) 100) (
  if (s 25 (ix (s 24 2))) = 32 then (
   sb (hset s 24 2 ((s 24 2) + 1)) fun s2 =>
   k8 s2)
  else (
   f_X8_step_46 N s)))
def l_X8_step_8 (N : Nat) : Hp → Option (Int32 × Hp) := lp (fun _ => none) (f_X8_step_8 N) N
def f_X8_step (N : Nat) (s : Hp) : Option (Int32 × Hp) :=
 sb (hset s 24 2 (s 24 3)) fun s1 =>
 l_X8_step_8 N s1
def f_X8_rewind (N : Nat) (s : Hp) : Option (Int32 × Hp) :=
 sb (hset s 24 3 0) fun s1 =>
 bd (f_X8_step N s1) fun v3 s2 =>
 some (0, s2)
def f_X8_spells_20 (N : Nat) (k20 : Hp → Int32 → Option (Int32 × Hp)) (s : Hp) (x2 : Int32) : Option (Int32 × Hp) :=
 if 4 ≤ x2 then (
  some (1, s))
 else (
  ck (inR ((s 24 2) + x2) 100) (
  ck (inR x2 4) (
  if (s 25 (ix ((s 24 2) + x2))) = (sAt 0 (ix x2)) then (
   vb (x2 + 1) fun y1 =>
   k20 s y1)
  else (
   some (0, s)))))
def l_X8_spells_20 (N : Nat) : Hp → Int32 → Option (Int32 × Hp) := lp (fun _ _ => none) (f_X8_spells_20 N) N
def f_X8_spells (N : Nat) (s : Hp) : Option (Int32 × Hp) :=
 if ((s 24 3) - (s 24 2)) = 4 then (
  l_X8_spells_20 N s 0)
 else (
  some (0, s))
def f_X8_spells_b_20 (N : Nat) (k20 : Hp → Int32 → Option (Int32 × Hp)) (s : Hp) (x2 : Int32) : Option (Int32 × Hp) :=
 if 4 ≤ x2 then (
  some (1, s))
 else (
  ck (inR ((s 24 2) + x2) 100) (
  ck (inR x2 4) (
  if (s 25 (ix ((s 24 2) + x2))) = (sAt 1 (ix x2)) then (
   vb (x2 + 1) fun y1 =>
   k20 s y1)
  else (
   some (0, s)))))
def l_X8_spells_b_20 (N : Nat) : Hp → Int32 → Option (Int32 × Hp) := lp (fun _ _ => none) (f_X8_spells_b_20 N) N
def f_X8_spells_b (N : Nat) (s : Hp) : Option (Int32 × Hp) :=
 if ((s 24 3) - (s 24 2)) = 4 then (
  l_X8_spells_b_20 N s 0)
 else (
  some (0, s))
def f_X8_spells_c_20 (N : Nat) (k20 : Hp → Int32 → Option (Int32 × Hp)) (s : Hp) (x2 : Int32) : Option (Int32 × Hp) :=
 if 4 ≤ x2 then (
  some (1, s))
 else (
  ck (inR ((s 24 2) + x2) 100) (
  ck (inR x2 4) (
  if (s 25 (ix ((s 24 2) + x2))) = (sAt 2 (ix x2)) then (
   vb (x2 + 1) fun y1 =>
   k20 s y1)
  else (
   some (0, s)))))
def l_X8_spells_c_20 (N : Nat) : Hp → Int32 → Option (Int32 × Hp) := lp (fun _ _ => none) (f_X8_spells_c_20 N) N
def f_X8_spells_c (N : Nat) (s : Hp) : Option (Int32 × Hp) :=
 if ((s 24 3) - (s 24 2)) = 4 then (
  l_X8_spells_c_20 N s 0)
 else (
  some (0, s))
def f_X8_spells_d_20 (N : Nat) (k20 : Hp → Int32 → Option (Int32 × Hp)) (s : Hp) (x2 : Int32) : Option (Int32 × Hp) :=
 if 3 ≤ x2 then (
  some (1, s))
 else (
  ck (inR ((s 24 2) + x2) 100) (
  ck (inR x2 3) (
  if (s 25 (ix ((s 24 2) + x2))) = (sAt 3 (ix x2)) then (
   vb (x2 + 1) fun y1 =>
   k20 s y1)
  else (
   some (0, s)))))
def l_X8_spells_d_20 (N : Nat) : Hp → Int32 → Option (Int32 × Hp) := lp (fun _ _ => none) (f_X8_spells_d_20 N) N
def f_X8_spells_d (N : Nat) (s : Hp) : Option (Int32 × Hp) :=
 if ((s 24 3) - (s 24 2)) = 3 then (
  l_X8_spells_d_20 N s 0)
 else (
  some (0, s))
def f_X5_wordOf (N : Nat) (s : Hp) : Option (Int32 × Hp) :=
 bd (f_X8_spells N s) fun v2 s1 =>
 if v2 = 0 then (
  bd (f_X8_spells_b N s1) fun v4 s3 =>
  if v4 = 0 then (
   bd (f_X8_spells_c N s3) fun v6 s5 =>
   if v6 = 0 then (
    bd (f_X8_spells_d N s5) fun v8 s7 =>
    if v8 = 0 then (
     some ((-1), s7))
    else (
     some (3, s7)))
   else (
    some (2, s5)))
  else (
   some (1, s3)))
 else (
  some (0, s1))
def f_X8_value_7 (N : Nat) (k7 : Hp → Int32 → Int32 → Option (Int32 × Hp)) (s : Hp) (x1 x2 : Int32) : Option (Int32 × Hp) :=
 if (s 24 3) ≤ x2 then (
  some (x1, s))
 else (
  ck (inR x2 100) (
  vb (imin 10000 (((x1 * 10) + (s 25 (ix x2))) - 48)) fun y2 =>
  vb (x2 + 1) fun y3 =>
  k7 s y2 y3))
def l_X8_value_7 (N : Nat) : Hp → Int32 → Int32 → Option (Int32 × Hp) := lp (fun _ _ _ => none) (f_X8_value_7 N) N
def f_X8_value (N : Nat) (s : Hp) : Option (Int32 × Hp) :=
 vb (s 24 2) fun y1 =>
 l_X8_value_7 N s 0 y1
def f_X5_blame (N : Nat) (s : Hp) (x2 : Int32) : Option (Int32 × Hp) :=
 sb (hset s 26 2 x2) fun s1 =>
 sb (hset s1 26 3 (s1 24 2)) fun s2 =>
 some (0, s2)
def f_X5_readNumber_42 (N : Nat) (s : Hp) : Option (Int32 × Hp) :=
 bd (f_X5_blame N s 3) fun v9 s8 =>
 some (0, s8)
def f_X5_readNumber (N : Nat) (s : Hp) (x2 x3 x4 : Int32) : Option (Int32 × Hp) :=
 if (s 26 2) = 0 then (
  if (s 24 4) = 2 then (
   bd (f_X8_value N s) fun v2 s1 =>
   if v2 < x3 then (
    f_X5_readNumber_42 N s1)
   else (
    if v2 ≤ x4 then (
     ck (inR x2 10) (sb (hset s1 27 (ix x2) v2) fun s3 =>
     bd (f_X8_step N s3) fun v5 s4 =>
     some (0, s4)))
    else (
     f_X5_readNumber_42 N s1)))
  else (
   bd (f_X5_blame N s 1) fun v7 s6 =>
   some (0, s6)))
 else (
  some (0, s))
def f_X5_readSign (N : Nat) (s : Hp) (x2 : Int32) : Option (Int32 × Hp) :=
 if (s 26 2) = 0 then (
  if (s 24 4) = x2 then (
   bd (f_X8_step N s) fun v2 s1 =>
   some (0, s1))
  else (
   bd (f_X5_blame N s 1) fun v4 s3 =>
   some (0, s3)))
 else (
  some (0, s))
def f_X5_readRange_37 (N : Nat) (s : Hp) (x2 t0 : Int32) : Option (Int32 × Hp) :=
 ck (inR x2 5) (
 bd (f_X5_readNumber N s ((2 * x2) + 1) t0 (gG (ix x2))) fun v6 s5 =>
 some (0, s5))
def f_X5_readRange (N : Nat) (s : Hp) (x2 : Int32) : Option (Int32 × Hp) :=
 ck (inR x2 5) (
 bd (f_X5_readNumber N s (2 * x2) 0 (gG (ix x2))) fun v2 s1 =>
 bd (f_X5_readSign N s1 3) fun v4 s3 =>
 if x2 = 1 then (
  f_X5_readRange_37 N s3 x2 0)
 else (
  ck (inR (2 * x2) 10) (
  f_X5_readRange_37 N s3 x2 (s3 27 (ix (2 * x2))))))
def f_X5_readClause_72 (N : Nat) (s : Hp) : Option (Int32 × Hp) :=
 bd (f_X5_readSign N s 4) fun v15 s14 =>
 some (0, s14)
def f_X5_readClause (N : Nat) (s : Hp) : Option (Int32 × Hp) :=
 bd (f_X5_wordOf N s) fun v2 s1 =>
 if v2 = (-1) then (
  bd (f_X5_blame N s1 1) fun v13 s12 =>
  some (0, s12))
 else (
  if (((s1 26 1) >>> (v2 &&& 31)) &&& 1) = 0 then (
   sb (hset s1 26 1 ((s1 26 1) ||| (1 <<< (v2 &&& 31)))) fun s3 =>
   bd (f_X8_step N s3) fun v5 s4 =>
   bd (f_X5_readRange N s4 v2) fun v7 s6 =>
   if v2 = 3 then (
    bd (f_X5_readRange N s6 4) fun v9 s8 =>
    f_X5_readClause_72 N s8)
   else (
    f_X5_readClause_72 N s6))
  else (
   bd (f_X5_blame N s1 2) fun v11 s10 =>
   some (0, s10)))
def f_X5_read_58 (N : Nat) (k58 : Hp → Int32 → Option (Int32 × Hp)) (s : Hp) (x2 : Int32) : Option (Int32 × Hp) :=
 if 4 < x2 then (
  some (0, s))
 else (
  if (s 26 2) = 0 then (
   if (s 24 4) = 0 then (
    some (0, s))
   else (
    bd (f_X5_readClause N s) fun v10 s9 =>
    vb (x2 + 1) fun y11 =>
    k58 s9 y11))
  else (
   some (0, s)))
def l_X5_read_58 (N : Nat) : Hp → Int32 → Option (Int32 × Hp) := lp (fun _ _ => none) (f_X5_read_58 N) N
def f_X5_read_17 (N : Nat) (k17 : Hp → Int32 → Option (Int32 × Hp)) (s : Hp) (x2 : Int32) : Option (Int32 × Hp) :=
 if 5 ≤ x2 then (
  bd (f_X8_rewind N s) fun v5 s4 =>
  l_X5_read_58 N s4 0)
 else (
  ck (inR (2 * x2) 10) (sb (hset s 27 (ix (2 * x2)) 0) fun s6 =>
  ck (inR x2 5) (
  ck (inR ((2 * x2) + 1) 10) (sb (hset s6 27 (ix ((2 * x2) + 1)) (gG (ix x2))) fun s7 =>
  vb (x2 + 1) fun y8 =>
  k17 s7 y8))))
def l_X5_read_17 (N : Nat) : Hp → Int32 → Option (Int32 × Hp) := lp (fun _ _ => none) (f_X5_read_17 N) N
def f_X5_read (N : Nat) (s : Hp) : Option (Int32 × Hp) :=
 sb (hset s 26 2 0) fun s1 =>
 sb (hset s1 26 3 (-1)) fun s2 =>
 sb (hset s2 26 1 0) fun s3 =>
 l_X5_read_17 N s3 0
def f_X1_add_20 (N : Nat) (k20 : Hp → Int32 → Option (Int32 × Hp)) (s : Hp) (x2 : Int32) : Option (Int32 × Hp) :=
 if 10 ≤ x2 then (
  sb (hset s 28 1 ((s 28 1) + 1)) fun s1 =>
  some ((s1 28 1) - 1, s1))
 else (
  ck (inR (s 28 1) 10) (
  ck (inR x2 10) (
  ck (inR x2 10) (sb (hset s (118 + ix (s 28 1)) (ix x2) (s 27 (ix x2))) fun s3 =>
  vb (x2 + 1) fun y4 =>
  k20 s3 y4))))
def l_X1_add_20 (N : Nat) : Hp → Int32 → Option (Int32 × Hp) := lp (fun _ _ => none) (f_X1_add_20 N) N
def f_X1_add (N : Nat) (s : Hp) : Option (Int32 × Hp) :=
 if 10 ≤ (s 28 1) then (
  some ((-1), s))
 else (
  if (10 : Int32) ≤ (10 : Int32) then (
   l_X1_add_20 N s 0)
  else (
   some ((-1), s)))
def f_X9_licence (N : Nat) (s : Hp) : Option (Int32 × Hp) :=
 if (s 28 1) < 10 then (
  bd (f_X5_read N s) fun v2 s1 =>
  sb (hset s1 24 1 0) fun s3 =>
  if (s3 26 2) = 0 then (
   bd (f_X1_add N s3) fun v5 s4 =>
   some (v5, s4))
  else (
   some ((-1), s3)))
 else (
  some ((-1), s))
def f_X9_fault (N : Nat) (s : Hp) (x1 : Int32) : Option (Int32 × Hp) :=
 if x1 = 0 then (
  some (s 26 2, s))
 else (
  if x1 = 1 then (
   some (s 26 3, s))
  else (
   some ((-1), s)))
def f_X1_allows (N : Nat) (s : Hp) (x1 x2 x3 x4 : Int32) : Option (Int32 × Hp) :=
 ck (inR x1 10) (
 ck (inR (2 * x2) 10) (
 if x3 < (s (118 + ix x1) (ix (2 * x2))) then (
  some (0, s))
 else (
  ck (inR x1 10) (
  ck (inR ((2 * x2) + 1) 10) (
  if (s (118 + ix x1) (ix ((2 * x2) + 1))) < x4 then (
   some (0, s))
  else (
   some (1, s)))))))
def f_X1_judgeFields_112 (N : Nat) (k43 : Hp → Int32 → Int32 → Int32 → Int32 → Int32 → Option (Int32 × Hp)) (s : Hp) (x1 x5 x6 x8 t0 : Int32) : Option (Int32 × Hp) :=
 vb (x8 + 1) fun y8 =>
 k43 s x1 x5 x6 t0 y8
def f_X1_judgeFields_111 (N : Nat) (k43 : Hp → Int32 → Int32 → Int32 → Int32 → Int32 → Option (Int32 × Hp)) (s : Hp) (x1 x5 x6 x8 : Int32) : Option (Int32 × Hp) :=
 f_X1_judgeFields_112 N k43 s x1 x5 x6 x8 0
def f_X1_judgeFields_91 (N : Nat) (k43 : Hp → Int32 → Int32 → Int32 → Int32 → Int32 → Option (Int32 × Hp)) (s : Hp) (x1 x5 x7 x8 x9 t0 : Int32) : Option (Int32 × Hp) :=
 if x7 = 0 then (
  f_X1_judgeFields_111 N k43 s x1 x5 t0 x8)
 else (
  ck (inR x8 32) (
  if x9 = (s 23 (ix x8)) then (
   f_X1_judgeFields_112 N k43 s x1 x5 t0 x8 1)
  else (
   f_X1_judgeFields_111 N k43 s x1 x5 t0 x8)))
def f_X1_judgeFields_86 (N : Nat) (k43 : Hp → Int32 → Int32 → Int32 → Int32 → Int32 → Option (Int32 × Hp)) (s : Hp) (x1 x5 x7 x8 x9 : Int32) : Option (Int32 × Hp) :=
 f_X1_judgeFields_91 N k43 s x1 x5 x7 x8 x9 1
def f_X1_judgeFields_74 (N : Nat) (k43 : Hp → Int32 → Int32 → Int32 → Int32 → Int32 → Option (Int32 × Hp)) (s : Hp) (x1 x5 x6 x7 x8 t0 : Int32) : Option (Int32 × Hp) :=
 if x6 = 0 then (
  if t0 = 0 then (
   f_X1_judgeFields_91 N k43 s x1 x5 x7 x8 t0 0)
  else (
   f_X1_judgeFields_86 N k43 s x1 x5 x7 x8 t0))
 else (
  f_X1_judgeFields_86 N k43 s x1 x5 x7 x8 t0)
def f_X1_judgeFields_43 (N : Nat) (k43 : Hp → Int32 → Int32 → Int32 → Int32 → Int32 → Option (Int32 × Hp)) (s : Hp) (x1 x5 x6 x7 x8 : Int32) : Option (Int32 × Hp) :=
 if 32 ≤ x8 then (
  if x6 = 0 then (
   some (4, s))
  else (
   if x7 = 0 then (
    some (5, s))
   else (
    some (0, s))))
 else (
  bd (f_X1_allows N s x1 4 x8 x8) fun v7 s6 =>
  if v7 = 0 then (
   f_X1_judgeFields_74 N k43 s6 x1 x5 x6 x7 x8 0)
  else (
   ck (inR x8 32) (
   f_X1_judgeFields_74 N k43 s6 x1 x5 x6 x7 x8 ((s6 23 (ix x8)) &&& x5))))
def l_X1_judgeFields_43 (N : Nat) : Hp → Int32 → Int32 → Int32 → Int32 → Int32 → Option (Int32 × Hp) := lp (fun _ _ _ _ _ _ => none) (f_X1_judgeFields_43 N) N
def f_X1_judgeFields (N : Nat) (s : Hp) (x1 : Int32) : Option (Int32 × Hp) :=
 ck (inR x1 10) (
 ck (inR 6 10) (
 vb (s (118 + ix x1) (ix 6)) fun y2 =>
 ck (inR x1 10) (
 ck (inR 7 10) (
 vb (s (118 + ix x1) (ix 7)) fun y4 =>
 vb ((ushr (-1) (31 - (y4 - y2))) <<< (y2 &&& 31)) fun y5 =>
 l_X1_judgeFields_43 N s x1 y5 0 1 0))))
def f_J9_floorMod_7cf53 (N : Nat) (s : Hp) (x0 x1 : Int32) : Option (Int32 × Hp) :=
 ck (ne0 x1) (
 vb (irm x0 x1) fun y1 =>
 if 0 ≤ (x0 ^^^ x1) then (
  some (y1, s))
 else (
  if y1 = 0 then (
   some (y1, s))
  else (
   some (y1 + x1, s))))
def f_X1_allowsTime_56 (N : Nat) (s : Hp) : Option (Int32 × Hp) :=
 some (1, s)
def f_X1_allowsTime (N : Nat) (s : Hp) (x1 x2 x3 : Int32) : Option (Int32 × Hp) :=
 ck (inR x1 10) (
 ck (inR 2 10) (
 vb (s (118 + ix x1) (ix 2)) fun y2 =>
 ck (inR x1 10) (
 ck (inR 3 10) (
 bd (f_J9_floorMod_7cf53 N s ((s (118 + ix x1) (ix 3)) - y2) 1440) fun v5 s4 =>
 if v5 = 1439 then (
  f_X1_allowsTime_56 N s4)
 else (
  bd (f_J9_floorMod_7cf53 N s4 (x2 - y2) 1440) fun v7 s6 =>
  if v5 < ((v7 + x3) - x2) then (
   some (0, s6))
  else (
   f_X1_allowsTime_56 N s6))))))
def f_X1_judge_41 (N : Nat) (k41 : Hp → Int32 → Int32 → Option (Int32 × Hp)) (s : Hp) (x1 x4 : Int32) : Option (Int32 × Hp) :=
 if (s 21 2) ≤ x4 then (
  bd (f_X1_judgeFields N s x1) fun v6 s5 =>
  some (v6, s5))
 else (
  ck (inR x4 60) (
  vb (s 22 (ix x4)) fun y7 =>
  ck (inR y7 60) (
  ck (inR y7 60) (
  bd (f_X1_allowsTime N s x1 (s 13 (ix y7)) (s 14 (ix y7))) fun v9 s8 =>
  if v9 = 0 then (
   some (3, s8))
  else (
   vb (x4 + 1) fun y10 =>
   k41 s8 x1 y10)))))
def l_X1_judge_41 (N : Nat) : Hp → Int32 → Int32 → Option (Int32 × Hp) := lp (fun _ _ _ => none) (f_X1_judge_41 N) N
def f_X1_judge (N : Nat) (s : Hp) (x1 : Int32) : Option (Int32 × Hp) :=
 bd (f_X1_allows N s x1 0 (s 21 3) (s 21 3)) fun v2 s1 =>
 if v2 = 0 then (
  some (1, s1))
 else (
  bd (f_X1_allows N s1 x1 2 (s1 21 6) (s1 21 7)) fun v4 s3 =>
  if v4 = 0 then (
   some (2, s3))
  else (
   l_X1_judge_41 N s3 x1 0))
def f_X9_fits (N : Nat) (s : Hp) (x1 x2 : Int32) : Option (Int32 × Hp) :=
 bd (f_X9_isBelow N s x1 (s 18 4)) fun v2 s1 =>
 if v2 = 0 then (
  some ((-1), s1))
 else (
  bd (f_X9_isBelow N s1 x2 (s1 28 1)) fun v4 s3 =>
  if v4 = 0 then (
   some ((-1), s3))
  else (
   bd (f_X6_draw N s3 x1) fun v6 s5 =>
   bd (f_X1_judge N s5 x2) fun v8 s7 =>
   some (v8, s7)))
def f_X1_choose_48 (N : Nat) (k9 : Hp → Int32 → Int32 → Int32 → Option (Int32 × Hp)) (s : Hp) (x3 x4 x5 : Int32) : Option (Int32 × Hp) :=
 vb (x5 + 1) fun y4 =>
 k9 s x3 x4 y4
def f_X1_choose_9 (N : Nat) (k9 : Hp → Int32 → Int32 → Int32 → Option (Int32 × Hp)) (s : Hp) (x3 x4 x5 : Int32) : Option (Int32 × Hp) :=
 if (s 28 1) ≤ x5 then (
  some (x3, s))
 else (
  bd (f_X1_judge N s x5) fun v2 s1 =>
  vb (irm (6 - v2) 6) fun y3 =>
  if x4 ≤ y3 then (
   f_X1_choose_48 N k9 s1 x3 x4 x5)
  else (
   f_X1_choose_48 N k9 s1 x5 y3 x5))
def l_X1_choose_9 (N : Nat) : Hp → Int32 → Int32 → Int32 → Option (Int32 × Hp) := lp (fun _ _ _ _ => none) (f_X1_choose_9 N) N
def f_X1_choose (N : Nat) (s : Hp) : Option (Int32 × Hp) :=
 l_X1_choose_9 N s (-1) 6 0
def f_X9_best (N : Nat) (s : Hp) (x1 x2 : Int32) : Option (Int32 × Hp) :=
 bd (f_X9_isBelow N s x1 (s 18 4)) fun v2 s1 =>
 if v2 = 0 then (
  some ((-1), s1))
 else (
  bd (f_X9_isBelow N s1 x2 2) fun v4 s3 =>
  if v4 = 0 then (
   some ((-1), s3))
  else (
   if (s3 28 1) = 0 then (
    some ((-1), s3))
   else (
    bd (f_X6_draw N s3 x1) fun v6 s5 =>
    bd (f_X1_choose N s5) fun v8 s7 =>
    if x2 = 0 then (
     some (v8, s7))
    else (
     bd (f_X1_judge N s7 v8) fun v10 s9 =>
     some (v10, s9)))))
def f_X9_wanderers_83 (N : Nat) (k4 : Hp → Int32 → Int32 → Option (Int32 × Hp)) (s : Hp) (x1 x2 : Int32) : Option (Int32 × Hp) :=
 vb (x2 + 1) fun y8 =>
 k4 s x1 y8
def f_X9_wanderers_80 (N : Nat) (k4 : Hp → Int32 → Int32 → Option (Int32 × Hp)) (s : Hp) (x1 x2 : Int32) : Option (Int32 × Hp) :=
 vb (x1 + 1) fun y7 =>
 f_X9_wanderers_83 N k4 s y7 x2
def f_X9_wanderers_4 (N : Nat) (k4 : Hp → Int32 → Int32 → Option (Int32 × Hp)) (s : Hp) (x1 x2 : Int32) : Option (Int32 × Hp) :=
 if (s 18 4) ≤ x2 then (
  some (x1, s))
 else (
  bd (f_X6_draw N s x2) fun v2 s1 =>
  bd (f_X1_choose N s1) fun v4 s3 =>
  if v4 = (-1) then (
   f_X9_wanderers_80 N k4 s3 x1 x2)
  else (
   bd (f_X1_judge N s3 v4) fun v6 s5 =>
   if v6 = 0 then (
    f_X9_wanderers_83 N k4 s5 x1 x2)
   else (
    f_X9_wanderers_80 N k4 s5 x1 x2)))
def l_X9_wanderers_4 (N : Nat) : Hp → Int32 → Int32 → Option (Int32 × Hp) := lp (fun _ _ _ => none) (f_X9_wanderers_4 N) N
def f_X9_wanderers (N : Nat) (s : Hp) : Option (Int32 × Hp) :=
 l_X9_wanderers_4 N s 0 0
def f_X3_lay_17 (N : Nat) (k17 : Hp → Int32 → Int32 → Int32 → Option (Int32 × Hp)) (s : Hp) (x1 x3 x4 : Int32) : Option (Int32 × Hp) :=
 if (s 30 5) ≤ x4 then (
  some (0, s))
 else (
  ck (inR x4 4) (sb (hset s 31 (ix x4) (x1 + (x4 * x3))) fun s3 =>
  vb (x4 + 1) fun y4 =>
  k17 s3 x1 x3 y4))
def l_X3_lay_17 (N : Nat) : Hp → Int32 → Int32 → Int32 → Option (Int32 × Hp) := lp (fun _ _ _ _ => none) (f_X3_lay_17 N) N
def f_X3_lay (N : Nat) (s : Hp) (x1 x2 x3 : Int32) : Option (Int32 × Hp) :=
 sb (hset s 30 5 (imin x2 4)) fun s1 =>
 sb (hset s1 30 6 x3) fun s2 =>
 l_X3_lay_17 N s2 x1 x3 0
def f_X7_latestAhead_54 (N : Nat) (k5 : Hp → Int32 → Int32 → Int32 → Int32 → Option (Int32 × Hp)) (s : Hp) (x1 x2 x3 x4 : Int32) : Option (Int32 × Hp) :=
 vb (x4 + 1) fun y2 =>
 k5 s x1 x2 x3 y2
def f_X7_latestAhead_5 (N : Nat) (k5 : Hp → Int32 → Int32 → Int32 → Int32 → Option (Int32 × Hp)) (s : Hp) (x1 x2 x3 x4 : Int32) : Option (Int32 × Hp) :=
 if (s 4 4) ≤ x4 then (
  some (x3, s))
 else (
  ck (inR x4 100) (
  if (s 6 (ix x4)) = x1 then (
   ck (inR x4 100) (
   if x2 ≤ (s 7 (ix x4)) then (
    f_X7_latestAhead_54 N k5 s x1 x2 x3 x4)
   else (
    ck (inR x4 100) (
    vb (imax x3 (imin (s 8 (ix x4)) (x2 - 1))) fun y1 =>
    f_X7_latestAhead_54 N k5 s x1 x2 y1 x4))))
  else (
   f_X7_latestAhead_54 N k5 s x1 x2 x3 x4)))
def l_X7_latestAhead_5 (N : Nat) : Hp → Int32 → Int32 → Int32 → Int32 → Option (Int32 × Hp) := lp (fun _ _ _ _ _ => none) (f_X7_latestAhead_5 N) N
def f_X7_latestAhead (N : Nat) (s : Hp) (x1 x2 : Int32) : Option (Int32 × Hp) :=
 l_X7_latestAhead_5 N s x1 x2 (-1) 0
def f_X3_isOneOfOldest_83 (N : Nat) (k6 : Hp → Int32 → Int32 → Int32 → Int32 → Int32 → Option (Int32 × Hp)) (s : Hp) (x1 x2 x3 x4 x5 : Int32) : Option (Int32 × Hp) :=
 vb (x5 + 1) fun y6 =>
 k6 s x1 x2 x3 x4 y6
def f_X3_isOneOfOldest_64 (N : Nat) (k6 : Hp → Int32 → Int32 → Int32 → Int32 → Int32 → Option (Int32 × Hp)) (s : Hp) (x1 x2 x3 x4 x5 t0 : Int32) : Option (Int32 × Hp) :=
 if t0 = 0 then (
  f_X3_isOneOfOldest_83 N k6 s x1 x2 x3 x4 x5)
 else (
  if ((x3 >>> (x5 &&& 31)) &&& 1) = 0 then (
   f_X3_isOneOfOldest_83 N k6 s x1 x2 x3 x4 x5)
  else (
   vb (x4 + 1) fun y5 =>
   f_X3_isOneOfOldest_83 N k6 s x1 x2 x3 y5 x5))
def f_X3_isOneOfOldest_59 (N : Nat) (k6 : Hp → Int32 → Int32 → Int32 → Int32 → Int32 → Option (Int32 × Hp)) (s : Hp) (x1 x2 x3 x4 x5 : Int32) : Option (Int32 × Hp) :=
 f_X3_isOneOfOldest_64 N k6 s x1 x2 x3 x4 x5 1
def f_X3_isOneOfOldest_63 (N : Nat) (k6 : Hp → Int32 → Int32 → Int32 → Int32 → Int32 → Option (Int32 × Hp)) (s : Hp) (x1 x2 x3 x4 x5 : Int32) : Option (Int32 × Hp) :=
 f_X3_isOneOfOldest_64 N k6 s x1 x2 x3 x4 x5 0
def f_X3_isOneOfOldest_6 (N : Nat) (k6 : Hp → Int32 → Int32 → Int32 → Int32 → Int32 → Option (Int32 × Hp)) (s : Hp) (x1 x2 x3 x4 x5 : Int32) : Option (Int32 × Hp) :=
 if 16 ≤ x5 then (
  if ((x3 >>> (x2 &&& 31)) &&& 1) = 0 then (
   some (0, s))
  else (
   if (s 30 5) ≤ x4 then (
    some (0, s))
   else (
    some (1, s))))
 else (
  ck (inR x1 4) (
  ck (inR x5 16) (
  ck (inR x1 4) (
  ck (inR x2 16) (
  if (s (128 + ix x1) (ix x5)) < (s (128 + ix x1) (ix x2)) then (
   f_X3_isOneOfOldest_59 N k6 s x1 x2 x3 x4 x5)
  else (
   ck (inR x1 4) (
   ck (inR x5 16) (
   ck (inR x1 4) (
   ck (inR x2 16) (
   if (s (128 + ix x1) (ix x5)) = (s (128 + ix x1) (ix x2)) then (
    if x2 ≤ x5 then (
     f_X3_isOneOfOldest_63 N k6 s x1 x2 x3 x4 x5)
    else (
     f_X3_isOneOfOldest_59 N k6 s x1 x2 x3 x4 x5))
   else (
    f_X3_isOneOfOldest_63 N k6 s x1 x2 x3 x4 x5)))))))))))
def l_X3_isOneOfOldest_6 (N : Nat) : Hp → Int32 → Int32 → Int32 → Int32 → Int32 → Option (Int32 × Hp) := lp (fun _ _ _ _ _ _ => none) (f_X3_isOneOfOldest_6 N) N
def f_X3_isOneOfOldest (N : Nat) (s : Hp) (x1 x2 x3 : Int32) : Option (Int32 × Hp) :=
 l_X3_isOneOfOldest_6 N s x1 x2 x3 0 0
def f_X3_look_104 (N : Nat) (k2 : Hp → Int32 → Int32 → Option (Int32 × Hp)) (k55 : Hp → Int32 → Int32 → Int32 → Option (Int32 × Hp)) (s : Hp) (x2 x3 x4 : Int32) : Option (Int32 × Hp) :=
 vb (x4 + 1) fun y13 =>
 k55 s x2 x3 y13
def f_X3_look_55 (N : Nat) (k2 : Hp → Int32 → Int32 → Option (Int32 × Hp)) (k55 : Hp → Int32 → Int32 → Int32 → Option (Int32 × Hp)) (s : Hp) (x2 x3 x4 : Int32) : Option (Int32 × Hp) :=
 if 16 ≤ x4 then (
  vb (x3 + 1) fun y7 =>
  k2 s x2 y7)
 else (
  bd (f_X3_isOneOfOldest N s x3 x4 x2) fun v9 s8 =>
  if v9 = 0 then (
   f_X3_look_104 N k2 k55 s8 x2 x3 x4)
  else (
   if 4 ≤ (s8 30 7) then (
    f_X3_look_104 N k2 k55 s8 x2 x3 x4)
   else (
    ck (inR x3 4) (
    ck (inR (s8 30 7) 4) (sb (hset s8 (132 + ix x3) (ix (s8 30 7)) x4) fun s11 =>
    sb (hset s11 30 7 ((s11 30 7) + 1)) fun s12 =>
    f_X3_look_104 N k2 k55 s12 x2 x3 x4)))))
def l_X3_look_55 (N : Nat) (k2 : Hp → Int32 → Int32 → Option (Int32 × Hp)) : Hp → Int32 → Int32 → Int32 → Option (Int32 × Hp) := lp (fun _ _ _ _ => none) (f_X3_look_55 N k2) N
def f_X3_look_13 (N : Nat) (k2 : Hp → Int32 → Int32 → Option (Int32 × Hp)) (k13 : Hp → Int32 → Int32 → Int32 → Option (Int32 × Hp)) (s : Hp) (x2 x3 x4 : Int32) : Option (Int32 × Hp) :=
 if 16 ≤ x4 then (
  sb (hset s 30 7 0) fun s1 =>
  l_X3_look_55 N k2 s1 x2 x3 0)
 else (
  ck (inR x3 4) (
  ck (inR x3 4) (
  bd (f_X7_latestAhead N s x4 (s 31 (ix x3))) fun v4 s3 =>
  ck (inR x4 16) (sb (hset s3 (128 + ix x3) (ix x4) v4) fun s5 =>
  vb (x4 + 1) fun y6 =>
  k13 s5 x2 x3 y6))))
def l_X3_look_13 (N : Nat) (k2 : Hp → Int32 → Int32 → Option (Int32 × Hp)) : Hp → Int32 → Int32 → Int32 → Option (Int32 × Hp) := lp (fun _ _ _ _ => none) (f_X3_look_13 N k2) N
def f_X3_look_2 (N : Nat) (k2 : Hp → Int32 → Int32 → Option (Int32 × Hp)) (s : Hp) (x2 x3 : Int32) : Option (Int32 × Hp) :=
 if (s 30 5) ≤ x3 then (
  some (0, s))
 else (
  l_X3_look_13 N k2 s x2 x3 0)
def l_X3_look_2 (N : Nat) : Hp → Int32 → Int32 → Option (Int32 × Hp) := lp (fun _ _ _ => none) (f_X3_look_2 N) N
def f_X3_look (N : Nat) (s : Hp) (x2 : Int32) : Option (Int32 × Hp) :=
 l_X3_look_2 N s x2 0
def f_X3_choose_9 (N : Nat) (k9 : Hp → Int32 → Int32 → Option (Int32 × Hp)) (s : Hp) (x2 x3 : Int32) : Option (Int32 × Hp) :=
 if x3 < 0 then (
  some (0, s))
 else (
  if (s 30 7) ≤ 0 then (
   some (0, s))
  else (
   ck (inR x3 4) (
   ck (ne0 (s 30 7)) (
   ck (inR (irm x2 (s 30 7)) 4) (
   ck (inR x3 4) (sb (hset s 34 (ix x3) (s (132 + ix x3) (ix (irm x2 (s 30 7))))) fun s3 =>
   ck (ne0 (s3 30 7)) (
   vb (x2 / (s3 30 7)) fun y4 =>
   vb (x3 + (-1)) fun y5 =>
   k9 s3 y4 y5)))))))
def l_X3_choose_9 (N : Nat) : Hp → Int32 → Int32 → Option (Int32 × Hp) := lp (fun _ _ _ => none) (f_X3_choose_9 N) N
def f_X3_choose (N : Nat) (s : Hp) (x1 : Int32) : Option (Int32 × Hp) :=
 vb ((s 30 5) - 1) fun y1 =>
 l_X3_choose_9 N s x1 y1
def f_X3_worthOfChosen_70 (N : Nat) (k4 : Hp → Int32 → Int32 → Option (Int32 × Hp)) (k29 : Hp → Int32 → Int32 → Int32 → Int32 → Option (Int32 × Hp)) (s : Hp) (x1 x2 x3 x4 : Int32) : Option (Int32 × Hp) :=
 vb (x4 + 1) fun y6 =>
 k29 s x1 x2 x3 y6
def f_X3_worthOfChosen_29 (N : Nat) (k4 : Hp → Int32 → Int32 → Option (Int32 × Hp)) (k29 : Hp → Int32 → Int32 → Int32 → Int32 → Option (Int32 × Hp)) (s : Hp) (x1 x2 x3 x4 : Int32) : Option (Int32 × Hp) :=
 if x2 ≤ x4 then (
  ck (inR x2 4) (
  vb (x1 + ((s 31 (ix x2)) - x3)) fun y3 =>
  vb (x2 + 1) fun y4 =>
  k4 s y3 y4))
 else (
  ck (inR x4 4) (
  ck (inR x2 4) (
  if (s 34 (ix x4)) = (s 34 (ix x2)) then (
   ck (inR x4 4) (
   vb (imax x3 (((s 31 (ix x4)) + (s 30 6)) - 1)) fun y5 =>
   f_X3_worthOfChosen_70 N k4 k29 s x1 x2 y5 x4))
  else (
   f_X3_worthOfChosen_70 N k4 k29 s x1 x2 x3 x4))))
def l_X3_worthOfChosen_29 (N : Nat) (k4 : Hp → Int32 → Int32 → Option (Int32 × Hp)) : Hp → Int32 → Int32 → Int32 → Int32 → Option (Int32 × Hp) := lp (fun _ _ _ _ _ => none) (f_X3_worthOfChosen_29 N k4) N
def f_X3_worthOfChosen_4 (N : Nat) (k4 : Hp → Int32 → Int32 → Option (Int32 × Hp)) (s : Hp) (x1 x2 : Int32) : Option (Int32 × Hp) :=
 if (s 30 5) ≤ x2 then (
  some (x1, s))
 else (
  ck (inR x2 4) (
  ck (inR x2 4) (
  ck (inR (s 34 (ix x2)) 16) (
  vb (s (128 + ix x2) (ix (s 34 (ix x2)))) fun y2 =>
  l_X3_worthOfChosen_29 N k4 s x1 x2 y2 0))))
def l_X3_worthOfChosen_4 (N : Nat) : Hp → Int32 → Int32 → Option (Int32 × Hp) := lp (fun _ _ _ => none) (f_X3_worthOfChosen_4 N) N
def f_X3_worthOfChosen (N : Nat) (s : Hp) : Option (Int32 × Hp) :=
 l_X3_worthOfChosen_4 N s 0 0
def f_X3_keepChosen_2 (N : Nat) (k2 : Hp → Int32 → Option (Int32 × Hp)) (s : Hp) (x1 : Int32) : Option (Int32 × Hp) :=
 if (s 30 5) ≤ x1 then (
  some (0, s))
 else (
  ck (inR x1 4) (
  ck (inR x1 4) (sb (hset s 35 (ix x1) (s 34 (ix x1))) fun s1 =>
  vb (x1 + 1) fun y2 =>
  k2 s1 y2)))
def l_X3_keepChosen_2 (N : Nat) : Hp → Int32 → Option (Int32 × Hp) := lp (fun _ _ => none) (f_X3_keepChosen_2 N) N
def f_X3_keepChosen (N : Nat) (s : Hp) : Option (Int32 × Hp) :=
 l_X3_keepChosen_2 N s 0
def f_X3_search_58 (N : Nat) (k29 : Hp → Int32 → Int32 → Int32 → Option (Int32 × Hp)) (s : Hp) (x1 x2 x3 : Int32) : Option (Int32 × Hp) :=
 vb (x3 + 1) fun y9 =>
 k29 s x1 x2 y9
def f_X3_search_29 (N : Nat) (k29 : Hp → Int32 → Int32 → Int32 → Option (Int32 × Hp)) (s : Hp) (x1 x2 x3 : Int32) : Option (Int32 × Hp) :=
 if x1 ≤ x3 then (
  some (x2, s))
 else (
  bd (f_X3_choose N s x3) fun v4 s3 =>
  bd (f_X3_worthOfChosen N s3) fun v6 s5 =>
  if v6 ≤ x2 then (
   f_X3_search_58 N k29 s5 x1 x2 x3)
  else (
   bd (f_X3_keepChosen N s5) fun v8 s7 =>
   f_X3_search_58 N k29 s7 x1 v6 x3))
def l_X3_search_29 (N : Nat) : Hp → Int32 → Int32 → Int32 → Option (Int32 × Hp) := lp (fun _ _ _ _ => none) (f_X3_search_29 N) N
def f_X3_search_4 (N : Nat) (k4 : Hp → Int32 → Int32 → Option (Int32 × Hp)) (s : Hp) (x1 x2 : Int32) : Option (Int32 × Hp) :=
 if (s 30 5) ≤ x2 then (
  l_X3_search_29 N s x1 (-1) 0)
 else (
  vb (x1 * (s 30 7)) fun y1 =>
  vb (x2 + 1) fun y2 =>
  k4 s y1 y2)
def l_X3_search_4 (N : Nat) : Hp → Int32 → Int32 → Option (Int32 × Hp) := lp (fun _ _ _ => none) (f_X3_search_4 N) N
def f_X3_search (N : Nat) (s : Hp) : Option (Int32 × Hp) :=
 l_X3_search_4 N s 1 0
def f_X9_sweep (N : Nat) (s : Hp) (x1 x2 x3 x4 : Int32) : Option (Int32 × Hp) :=
 if x1 ≤ 0 then (
  some ((-1), s))
 else (
  if 65536 ≤ x1 then (
   some ((-1), s))
  else (
   bd (f_X9_isBelow N s x2 10000) fun v2 s1 =>
   if v2 = 0 then (
    some ((-1), s1))
   else (
    if x3 < 1 then (
     some ((-1), s1))
    else (
     if 4 < x3 then (
      some ((-1), s1))
     else (
      if x4 < 1 then (
       some ((-1), s1))
      else (
       if 240 < x4 then (
        some ((-1), s1))
       else (
        if (x2 + (x3 * x4)) ≤ 10000 then (
         bd (f_X3_lay N s1 x2 x3 x4) fun v4 s3 =>
         bd (f_X3_look N s3 x1) fun v6 s5 =>
         bd (f_X3_search N s5) fun v8 s7 =>
         some (v8, s7))
        else (
         some ((-1), s1)))))))))
def f_X9_slot (N : Nat) (s : Hp) (x1 : Int32) : Option (Int32 × Hp) :=
 bd (f_X9_isBelow N s x1 (s 30 5)) fun v2 s1 =>
 if v2 = 0 then (
  some ((-1), s1))
 else (
  ck (inR x1 4) (
  some (s1 35 (ix x1), s1)))
def f_X9_about (N : Nat) (s : Hp) (x1 : Int32) : Option (Int32 × Hp) :=
 if x1 = 0 then (
  some (s 1 2, s))
 else (
  if x1 = 1 then (
   some (s 4 4, s))
  else (
   if x1 = 2 then (
    some (s 10 4, s))
   else (
    if x1 = 3 then (
     some (s 28 1, s))
    else (
     if x1 = 4 then (
      some (s 18 2, s))
     else (
      if x1 = 5 then (
       some (s 18 3, s))
      else (
       if x1 = 6 then (
        some (s 24 1, s))
       else (
        if x1 = 7 then (
         some (s 9 4, s))
        else (
         some ((-1), s)))))))))
