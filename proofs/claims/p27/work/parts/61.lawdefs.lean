def f_L_low (p0 : Int32) (p1 : Int32) : Option (Int32) :=
    ck (decide (¬ p1 = 0)) (
    some ((p0 &&& 2147483647) - (p0 &&& 2147483647) / p1 * p1))
def f_L_sent_L24 : Nat → DV → Int32 → Int32 → Option (Int32 × DV)
  | 0, _, _, _ => none
  | n + 1, v, x2, x3 =>
    bd1 (f_X6_count n v 2) (fun r27 =>
    (if r27 ≤ x3 then
    some ((-6), v)
    else
    (if x2 < 0 then
    some ((-6), v)
    else
    bd2 (f_X6_ofLetter n v x3 4) (fun r41 v41 =>
    (if r41 = 1 then
    (if 0 ≤ (x2 - 1) then
    f_L_sent_L24 n v41 (x2 - 1) (x3 + 1)
    else
    some (x3, v41))
    else
    (if 0 ≤ (x2 - 0) then
    f_L_sent_L24 n v41 (x2 - 0) (x3 + 1)
    else
    some (x3, v41)))))))
def f_L_sent (n0 : Nat) (v0 : DV) (p1 : Int32) : Option (Int32 × DV) :=
    bd1 (f_X6_count n0 v0 4) (fun r2 =>
    (if r2 = 0 then
    f_L_sent_L24 n0 v0 (-1) 0
    else
    bd1 (f_X6_count n0 v0 4) (fun r15 =>
    bd1 (f_L_low p1 r15) (fun r18 =>
    f_L_sent_L24 n0 v0 r18 0))))
def f_L_areLettersSo_J396 (k33 : DV → Int32 → Int32 → Option (Int32 × DV)) (n : Nat) (v : DV) (x3 : Int32) (x5 : Int32) (x8 : Int32) (z0 : Int32) : Option (Int32 × DV) :=
    (if x5 < 0 then
    k33 v z0 (x3 + (-1))
    else
    ck (ixb x5 30) (
    (if x8 ≤ ((v 30) (Int32.toNatClampNeg x5)) then
    ck (ixb x5 30) (
    ck (ixb x5 30) (
    k33 (vs v 30 (upd (v 30) (Int32.toNatClampNeg x5) ((v 30) (Int32.toNatClampNeg x5)))) z0 (x3 + (-1))))
    else
    ck (ixb x5 30) (
    k33 (vs v 30 (upd (v 30) (Int32.toNatClampNeg x5) x8)) z0 (x3 + (-1))))))
def f_L_areLettersSo_J395 (k33 : DV → Int32 → Int32 → Option (Int32 × DV)) (n : Nat) (v : DV) (x3 : Int32) (x5 : Int32) (x8 : Int32) : Option (Int32 × DV) :=
    f_L_areLettersSo_J396 k33 n v x3 x5 x8 0
def f_L_areLettersSo_J372 (k33 : DV → Int32 → Int32 → Option (Int32 × DV)) (n : Nat) (v : DV) (x3 : Int32) (x4 : Int32) (x5 : Int32) (x8 : Int32) (z0 : Int64) (z1 : Int64) : Option (Int32 × DV) :=
    (if (lg_cmp z1 z0) = 0 then
    bd1 (f_X6_letters n v x4) (fun r379 =>
    (if (lg_cmp ((r379 >>> (Int32.toInt64 x3 &&& 63)) &&& 1) 1) = 0 then
    f_L_areLettersSo_J396 k33 n v x3 x5 x8 1
    else
    f_L_areLettersSo_J395 k33 n v x3 x5 x8))
    else
    f_L_areLettersSo_J395 k33 n v x3 x5 x8)
def f_L_areLettersSo_J353 (k33 : DV → Int32 → Int32 → Option (Int32 × DV)) (n : Nat) (v : DV) (x3 : Int32) (x4 : Int32) (x5 : Int32) (x8 : Int32) (x10 : Int32) : Option (Int32 × DV) :=
    bd1 (f_X6_letters n v 3) (fun r355 =>
    (if x10 = 0 then
    f_L_areLettersSo_J372 k33 n v x3 x4 x5 x8 0 ((r355 >>> (Int32.toInt64 x3 &&& 63)) &&& 1)
    else
    f_L_areLettersSo_J372 k33 n v x3 x4 x5 x8 1 ((r355 >>> (Int32.toInt64 x3 &&& 63)) &&& 1)))
def f_L_areLettersSo_J275 (k33 : DV → Int32 → Int32 → Option (Int32 × DV)) (n : Nat) (v : DV) (x3 : Int32) (x4 : Int32) (x5 : Int32) (x8 : Int32) (x10 : Int32) (z0 : Int32) : Option (Int32 × DV) :=
    (if z0 = 0 then
    f_L_areLettersSo_J395 k33 n v x3 x5 x8
    else
    (if x5 = (-6) then
    bd2 (f_X6_ofLetter n v x3 9) (fun r291 v291 =>
    (if r291 = 0 then
    f_L_areLettersSo_J353 k33 n (vs v291 30 (v 30)) x3 x4 x5 x8 x10
    else
    f_L_areLettersSo_J395 k33 n (vs v291 30 (v 30)) x3 x5 x8))
    else
    (if x3 ≤ x5 then
    f_L_areLettersSo_J395 k33 n v x3 x5 x8
    else
    bd2 (f_X6_ofLetter n v x5 4) (fun r310 v310 =>
    (if r310 = 1 then
    bd2 (f_X6_ofLetter n (vs v310 30 (v 30)) x3 9) (fun r321 v321 =>
    bd2 (f_X6_ofLetter n (vs v321 30 ((vs v310 30 (v 30)) 30)) x5 9) (fun r329 v329 =>
    (if r321 = (r329 + 1) then
    bd2 (f_X6_ofLetter n (vs v329 30 ((vs v321 30 ((vs v310 30 (v 30)) 30)) 30)) x5 5) (fun r341 v341 =>
    bd2 (f_X6_ofLetter n (vs v341 30 ((vs v329 30 ((vs v321 30 ((vs v310 30 (v 30)) 30)) 30)) 30)) x3 3) (fun r347 v347 =>
    (if r347 < r341 then
    f_L_areLettersSo_J395 k33 n (vs v347 30 ((vs v341 30 ((vs v329 30 ((vs v321 30 ((vs v310 30 (v 30)) 30)) 30)) 30)) 30)) x3 x5 x8
    else
    f_L_areLettersSo_J353 k33 n (vs v347 30 ((vs v341 30 ((vs v329 30 ((vs v321 30 ((vs v310 30 (v 30)) 30)) 30)) 30)) 30)) x3 x4 x5 x8 x10)))
    else
    f_L_areLettersSo_J395 k33 n (vs v329 30 ((vs v321 30 ((vs v310 30 (v 30)) 30)) 30)) x3 x5 x8)))
    else
    f_L_areLettersSo_J395 k33 n (vs v310 30 (v 30)) x3 x5 x8)))))
def f_L_areLettersSo_J274 (k33 : DV → Int32 → Int32 → Option (Int32 × DV)) (n : Nat) (v : DV) (x3 : Int32) (x4 : Int32) (x5 : Int32) (x8 : Int32) (x10 : Int32) : Option (Int32 × DV) :=
    f_L_areLettersSo_J275 k33 n v x3 x4 x5 x8 x10 0
def f_L_areLettersSo_J267 (k33 : DV → Int32 → Int32 → Option (Int32 × DV)) (n : Nat) (v : DV) (x3 : Int32) (x4 : Int32) (x5 : Int32) (x8 : Int32) (x10 : Int32) (z0 : Int32) (z1 : Int32) : Option (Int32 × DV) :=
    (if z1 = z0 then
    f_L_areLettersSo_J275 k33 n v x3 x4 x5 x8 x10 1
    else
    f_L_areLettersSo_J274 k33 n v x3 x4 x5 x8 x10)
def f_L_areLettersSo_J225 (k33 : DV → Int32 → Int32 → Option (Int32 × DV)) (n : Nat) (v : DV) (x3 : Int32) (x4 : Int32) (x5 : Int32) (x8 : Int32) (x10 : Int32) (z0 : Int32) (z1 : Int32) : Option (Int32 × DV) :=
    (if z1 = z0 then
    bd2 (f_X6_ofLetter n v x3 2) (fun r231 v231 =>
    bd2 (f_X6_ofLetter n (vs v231 30 (v 30)) x3 1) (fun r237 v237 =>
    (if r237 < r231 then
    f_L_areLettersSo_J274 k33 n (vs v237 30 ((vs v231 30 (v 30)) 30)) x3 x4 x5 x8 x10
    else
    (if x4 = 1 then
    bd2 (f_X6_ofLetter n (vs v237 30 ((vs v231 30 (v 30)) 30)) x3 2) (fun r254 v254 =>
    ck (ixb x3 30) (
    f_L_areLettersSo_J267 k33 n (vs v254 30 ((vs v237 30 ((vs v231 30 (v 30)) 30)) 30)) x3 x4 x5 x8 x10 (r254 + ((((vs v254 30 ((vs v237 30 ((vs v231 30 (v 30)) 30)) 30)) 30) (Int32.toNatClampNeg x3)) / 2)) x8))
    else
    f_L_areLettersSo_J267 k33 n (vs v237 30 ((vs v231 30 (v 30)) 30)) x3 x4 x5 x8 x10 0 x8))))
    else
    f_L_areLettersSo_J274 k33 n v x3 x4 x5 x8 x10)
def f_L_areLettersSo_J211 (k33 : DV → Int32 → Int32 → Option (Int32 × DV)) (n : Nat) (v : DV) (x3 : Int32) (x4 : Int32) (x5 : Int32) (x8 : Int32) (x10 : Int32) (z0 : Int32) : Option (Int32 × DV) :=
    bd2 (f_X6_ofLetter n v x3 5) (fun r214 v214 =>
    (if r214 < 0 then
    f_L_areLettersSo_J225 k33 n (vs v214 30 (v 30)) x3 x4 x5 x8 x10 0 z0
    else
    f_L_areLettersSo_J225 k33 n (vs v214 30 (v 30)) x3 x4 x5 x8 x10 1 z0))
def f_L_areLettersSo_J200 (k33 : DV → Int32 → Int32 → Option (Int32 × DV)) (n : Nat) (v : DV) (x3 : Int32) (x4 : Int32) (x5 : Int32) (x8 : Int32) (x10 : Int32) : Option (Int32 × DV) :=
    (if x4 = 1 then
    f_L_areLettersSo_J211 k33 n v x3 x4 x5 x8 x10 1
    else
    f_L_areLettersSo_J211 k33 n v x3 x4 x5 x8 x10 0)
def f_L_areLettersSo_J197 (k33 : DV → Int32 → Int32 → Option (Int32 × DV)) (n : Nat) (v : DV) (x3 : Int32) (x4 : Int32) (x5 : Int32) (x8 : Int32) (x10 : Int32) (z0 : Int32) (z1 : Int32) : Option (Int32 × DV) :=
    (if z1 = z0 then
    f_L_areLettersSo_J200 k33 n v x3 x4 x5 x8 x10
    else
    f_L_areLettersSo_J274 k33 n v x3 x4 x5 x8 x10)
def f_L_areLettersSo_J168 (k33 : DV → Int32 → Int32 → Option (Int32 × DV)) (n : Nat) (v : DV) (x1 : Int32) (x3 : Int32) (x4 : Int32) (x5 : Int32) (x7 : Int32) (x8 : Int32) (z0 : Int32) : Option (Int32 × DV) :=
    (if x1 = 0 then
    f_L_areLettersSo_J274 k33 n v x3 x4 x5 x8 z0
    else
    (if x4 = 1 then
    f_L_areLettersSo_J200 k33 n v x3 x4 x5 x8 z0
    else
    bd2 (f_X6_ofLetter n v x3 2) (fun r183 v183 =>
    (if 0 ≤ x7 then
    f_L_areLettersSo_J197 k33 n (vs v183 30 (v 30)) x3 x4 x5 x8 z0 x7 r183
    else
    f_L_areLettersSo_J197 k33 n (vs v183 30 (v 30)) x3 x4 x5 x8 z0 0 r183))))
def f_L_areLettersSo_J167 (k33 : DV → Int32 → Int32 → Option (Int32 × DV)) (n : Nat) (v : DV) (x1 : Int32) (x3 : Int32) (x4 : Int32) (x5 : Int32) (x7 : Int32) (x8 : Int32) : Option (Int32 × DV) :=
    f_L_areLettersSo_J168 k33 n v x1 x3 x4 x5 x7 x8 0
def f_L_areLettersSo_J114 (k33 : DV → Int32 → Int32 → Option (Int32 × DV)) (n : Nat) (v : DV) (x1 : Int32) (x3 : Int32) (x4 : Int32) (x5 : Int32) (x6 : Int32) (x7 : Int32) (x8 : Int32) (z0 : Int32) : Option (Int32 × DV) :=
    (if x4 = 0 then
    (if z0 = 0 then
    f_L_areLettersSo_J167 k33 n v x1 x3 x4 x5 x7 x8
    else
    bd1 (f_X6_count n v 0) (fun r128 =>
    bd2 (f_X6_ofLetter n v x3 3) (fun r134 v134 =>
    bd1 (f_X6_ofDrawer n (vs v134 30 (v 30)) x6 2) (fun r142 =>
    (if (r128 - r134) < r142 then
    f_L_areLettersSo_J167 k33 n (vs v134 30 (v 30)) x1 x3 x4 x5 x7 x8
    else
    bd2 (f_X6_ofLetter n (vs v134 30 (v 30)) x3 2) (fun r151 v151 =>
    bd1 (f_X6_count n (vs v151 30 ((vs v134 30 (v 30)) 30)) 8) (fun r157 =>
    (if r157 < r151 then
    f_L_areLettersSo_J167 k33 n (vs v151 30 ((vs v134 30 (v 30)) 30)) x1 x3 x4 x5 x7 x8
    else
    f_L_areLettersSo_J168 k33 n (vs v151 30 ((vs v134 30 (v 30)) 30)) x1 x3 x4 x5 x7 x8 1))))))))
    else
    f_L_areLettersSo_J167 k33 n v x1 x3 x4 x5 x7 x8)
def f_L_areLettersSo_L33 : Nat → DV → Int32 → Int32 → Option (Int32 × DV)
  | 0, _, _, _ => none
  | n + 1, v, x1, x3 =>
    (if x3 < 0 then
    ck (okZ x1) (
    some (x1, v))
    else
    bd2 (f_X6_ofLetter n v x3 4) (fun r40 v40 =>
    bd2 (f_X6_ofLetter n (vs v40 30 (v 30)) x3 6) (fun r49 v49 =>
    bd2 (f_X6_ofLetter n (vs v49 30 ((vs v40 30 (v 30)) 30)) x3 0) (fun r57 v57 =>
    bd2 (f_X6_ofLetter n (vs v57 30 ((vs v49 30 ((vs v40 30 (v 30)) 30)) 30)) x3 1) (fun r65 v65 =>
    bd1 (f_X6_count n (vs v65 30 ((vs v57 30 ((vs v49 30 ((vs v40 30 (v 30)) 30)) 30)) 30)) 9) (fun r71 =>
    bd1 (f_X6_count n (vs v65 30 ((vs v57 30 ((vs v49 30 ((vs v40 30 (v 30)) 30)) 30)) 30)) 0) (fun r76 =>
    bd2 (f_X6_ofLetter n (vs v65 30 ((vs v57 30 ((vs v49 30 ((vs v40 30 (v 30)) 30)) 30)) 30)) x3 3) (fun r82 v82 =>
    bd2 (f_X6_ofLetter n (vs v82 30 ((vs v65 30 ((vs v57 30 ((vs v49 30 ((vs v40 30 (v 30)) 30)) 30)) 30)) 30)) x3 7) (fun r94 v94 =>
    bd1 (f_X6_ofDrawer n (vs v94 30 ((vs v82 30 ((vs v65 30 ((vs v57 30 ((vs v49 30 ((vs v40 30 (v 30)) 30)) 30)) 30)) 30)) 30)) r57 1) (fun r103 =>
    (if r103 = 0 then
    f_L_areLettersSo_J114 (fun v x1 x3 => f_L_areLettersSo_L33 n v x1 x3) n (vs v94 30 ((vs v82 30 ((vs v65 30 ((vs v57 30 ((vs v49 30 ((vs v40 30 (v 30)) 30)) 30)) 30)) 30)) 30)) x1 x3 r40 r49 r57 (r65 - (r71 * (r76 - r82))) r94 1
    else
    f_L_areLettersSo_J114 (fun v x1 x3 => f_L_areLettersSo_L33 n v x1 x3) n (vs v94 30 ((vs v82 30 ((vs v65 30 ((vs v57 30 ((vs v49 30 ((vs v40 30 (v 30)) 30)) 30)) 30)) 30)) 30)) x1 x3 r40 r49 r57 (r65 - (r71 * (r76 - r82))) r94 0)))))))))))
def f_L_areLettersSo_J19 (n : Nat) (v : DV) (z0 : Int32) : Option (Int32 × DV) :=
    bd1 (f_X6_count n (vs v 30 (fun _ => 0)) 2) (fun r27 =>
    f_L_areLettersSo_L33 n (vs v 30 (fun _ => 0)) z0 (r27 - 1))
def f_L_areLettersSo (n0 : Nat) (v0 : DV) : Option (Int32 × DV) :=
    bd1 (f_X6_count n0 v0 2) (fun r3 =>
    bd2 (f_X6_ofLetter n0 v0 r3 0) (fun r7 v7 =>
    (if r7 = (-1) then
    f_L_areLettersSo_J19 n0 v7 1
    else
    f_L_areLettersSo_J19 n0 v7 0)))
def f_L_areDrawersSo_J378 (n : Nat) (v : DV) (x2 : Int32) (z0 : Int32) : Option (Int32 × DV) :=
    (if x2 = 0 then
    bd1 (f_X6_count n v 2) (fun r384 =>
    (if r384 ≤ 0 then
    (if z0 = 0 then
    some (1, v)
    else
    some (0, v))
    else
    (if z0 = 1 then
    some (1, v)
    else
    some (0, v))))
    else
    (if z0 = 0 then
    some (1, v)
    else
    some (0, v)))
def f_L_areDrawersSo_J221 (k15 : DV → Int32 → Int32 → Int32 → Int32 → Int32 → Int32 → Option (Int32 × DV)) (n : Nat) (v : DV) (x1 : Int32) (x2 : Int32) (x3 : Int32) (x4 : Int32) (x6 : Int32) (z0 : Int32) (z1 : Int32) : Option (Int32 × DV) :=
    (if z1 = z0 then
    bd1 (f_X6_ofDrawer n v x6 3) (fun r228 =>
    (if r228 < 0 then
    k15 v x1 x2 x3 x4 1 (x6 + 1)
    else
    bd1 (f_X6_ofDrawer n v x6 3) (fun r238 =>
    bd1 (f_X6_ofDrawer n v x6 4) (fun r245 =>
    (if r238 = r245 then
    k15 v x1 x2 x3 x4 0 (x6 + 1)
    else
    k15 v x1 x2 x3 x4 1 (x6 + 1))))))
    else
    k15 v x1 x2 x3 x4 0 (x6 + 1))
def f_L_areDrawersSo_J204 (k15 : DV → Int32 → Int32 → Int32 → Int32 → Int32 → Int32 → Option (Int32 × DV)) (n : Nat) (v : DV) (x1 : Int32) (x2 : Int32) (x3 : Int32) (x4 : Int32) (x6 : Int32) (z0 : Int32) : Option (Int32 × DV) :=
    bd1 (f_X6_ofDrawer n v x6 4) (fun r208 =>
    (if r208 = (-6) then
    f_L_areDrawersSo_J221 k15 n v x1 x2 x3 x4 x6 1 z0
    else
    f_L_areDrawersSo_J221 k15 n v x1 x2 x3 x4 x6 0 z0))
def f_L_areDrawersSo_J82 (k15 : DV → Int32 → Int32 → Int32 → Int32 → Int32 → Int32 → Option (Int32 × DV)) (k31 : DV → Int32 → Int32 → Int32 → Int32 → Int32 → Int32 → Int32 → Int32 → Int32 → Option (Int32 × DV)) (n : Nat) (v : DV) (x1 : Int32) (x2 : Int32) (x3 : Int32) (x4 : Int32) (x5 : Int32) (x6 : Int32) (x8 : Int32) (x9 : Int32) (x10 : Int32) (z0 : Int32) (z1 : Int32) : Option (Int32 × DV) :=
    (if x10 = 0 then
    k31 v x1 x2 x3 x4 x5 x6 (z1 + z0) (x8 + 0) (x9 + 1)
    else
    bd2 (f_X6_ofLetter n v x9 2) (fun r96 v96 =>
    k31 v96 x1 x2 x3 x4 x5 x6 (z1 + z0) (x8 + r96) (x9 + 1)))
def f_L_areDrawersSo_J68 (k15 : DV → Int32 → Int32 → Int32 → Int32 → Int32 → Int32 → Option (Int32 × DV)) (k31 : DV → Int32 → Int32 → Int32 → Int32 → Int32 → Int32 → Int32 → Int32 → Int32 → Option (Int32 × DV)) (n : Nat) (v : DV) (x1 : Int32) (x2 : Int32) (x3 : Int32) (x4 : Int32) (x5 : Int32) (x6 : Int32) (x7 : Int32) (x8 : Int32) (x9 : Int32) (z0 : Int32) : Option (Int32 × DV) :=
    (if z0 = 0 then
    f_L_areDrawersSo_J82 k15 k31 n v x1 x2 x3 x4 x5 x6 x8 x9 z0 0 x7
    else
    f_L_areDrawersSo_J82 k15 k31 n v x1 x2 x3 x4 x5 x6 x8 x9 z0 1 x7)
def f_L_areDrawersSo_J67 (k15 : DV → Int32 → Int32 → Int32 → Int32 → Int32 → Int32 → Option (Int32 × DV)) (k31 : DV → Int32 → Int32 → Int32 → Int32 → Int32 → Int32 → Int32 → Int32 → Int32 → Option (Int32 × DV)) (n : Nat) (v : DV) (x1 : Int32) (x2 : Int32) (x3 : Int32) (x4 : Int32) (x5 : Int32) (x6 : Int32) (x7 : Int32) (x8 : Int32) (x9 : Int32) : Option (Int32 × DV) :=
    f_L_areDrawersSo_J68 k15 k31 n v x1 x2 x3 x4 x5 x6 x7 x8 x9 0
def f_L_areDrawersSo_L31 (k15 : DV → Int32 → Int32 → Int32 → Int32 → Int32 → Int32 → Option (Int32 × DV)) : Nat → DV → Int32 → Int32 → Int32 → Int32 → Int32 → Int32 → Int32 → Int32 → Int32 → Option (Int32 × DV)
  | 0, _, _, _, _, _, _, _, _, _, _ => none
  | n + 1, v, x1, x2, x3, x4, x5, x6, x7, x8, x9 =>
    bd1 (f_X6_count n v 2) (fun r35 =>
    (if r35 ≤ x9 then
    bd1 (f_X6_ofDrawer n v x6 6) (fun r123 =>
    bd1 (f_X6_ofDrawer n v x6 7) (fun r134 =>
    bd1 (f_X6_ofDrawer n v x6 1) (fun r145 =>
    (if x5 = 0 then
    k15 v (x1 + x7) (x2 + r123) (x3 + r134) (x4 + r145) 0 (x6 + 1)
    else
    bd1 (f_X6_ofDrawer n v x6 0) (fun r162 =>
    (if x7 = r162 then
    (if 8 < x7 then
    k15 v (x1 + x7) (x2 + r123) (x3 + r134) (x4 + r145) 0 (x6 + 1)
    else
    bd1 (f_X6_ofDrawer n v x6 5) (fun r181 =>
    (if x8 = r181 then
    bd1 (f_X6_ofDrawer n v x6 3) (fun r191 =>
    (if r191 = (-6) then
    f_L_areDrawersSo_J204 k15 n v (x1 + x7) (x2 + r123) (x3 + r134) (x4 + r145) x6 1
    else
    f_L_areDrawersSo_J204 k15 n v (x1 + x7) (x2 + r123) (x3 + r134) (x4 + r145) x6 0))
    else
    k15 v (x1 + x7) (x2 + r123) (x3 + r134) (x4 + r145) 0 (x6 + 1))))
    else
    k15 v (x1 + x7) (x2 + r123) (x3 + r134) (x4 + r145) 0 (x6 + 1)))))))
    else
    bd2 (f_X6_ofLetter n v x9 0) (fun r45 v45 =>
    (if r45 = x6 then
    bd2 (f_X6_ofLetter n v45 x9 4) (fun r57 v57 =>
    (if r57 = 0 then
    f_L_areDrawersSo_J68 k15 (fun v x1 x2 x3 x4 x5 x6 x7 x8 x9 => f_L_areDrawersSo_L31 k15 n v x1 x2 x3 x4 x5 x6 x7 x8 x9) n v57 x1 x2 x3 x4 x5 x6 x7 x8 x9 1
    else
    f_L_areDrawersSo_J67 k15 (fun v x1 x2 x3 x4 x5 x6 x7 x8 x9 => f_L_areDrawersSo_L31 k15 n v x1 x2 x3 x4 x5 x6 x7 x8 x9) n v57 x1 x2 x3 x4 x5 x6 x7 x8 x9))
    else
    f_L_areDrawersSo_J67 k15 (fun v x1 x2 x3 x4 x5 x6 x7 x8 x9 => f_L_areDrawersSo_L31 k15 n v x1 x2 x3 x4 x5 x6 x7 x8 x9) n v45 x1 x2 x3 x4 x5 x6 x7 x8 x9))))
def f_L_areDrawersSo_L15 : Nat → DV → Int32 → Int32 → Int32 → Int32 → Int32 → Int32 → Option (Int32 × DV)
  | 0, _, _, _, _, _, _, _ => none
  | n + 1, v, x1, x2, x3, x4, x5, x6 =>
    (if 6 ≤ x6 then
    (if x5 = 0 then
    some (0, v)
    else
    bd1 (f_X6_count n v 3) (fun r272 =>
    (if x1 = r272 then
    bd1 (f_X6_count n v 4) (fun r281 =>
    (if x2 = r281 then
    bd1 (f_X6_count n v 5) (fun r290 =>
    (if x3 = r290 then
    bd1 (f_X6_count n v 6) (fun r301 =>
    (if x4 = r301 then
    bd1 (f_X6_count n v 2) (fun r314 =>
    (if ((x1 + x2) + x3) = r314 then
    bd1 (f_X6_letters n v 0) (fun r322 =>
    bd1 (f_X6_letters n v 1) (fun r327 =>
    (if (lg_cmp (r322 &&& r327) 0) = 0 then
    bd1 (f_X6_letters n v 0) (fun r338 =>
    bd1 (f_X6_letters n v 1) (fun r343 =>
    bd1 (f_X6_letters n v 2) (fun r349 =>
    bd1 (f_X6_count n v 2) (fun r356 =>
    (if (lg_cmp ((r338 ||| r343) ||| r349) ((1 <<< (Int32.toInt64 r356 &&& 63)) - 1)) = 0 then
    bd1 (f_X6_share n v) (fun r367 =>
    (if r367 = 0 then
    f_L_areDrawersSo_J378 n v x2 1
    else
    f_L_areDrawersSo_J378 n v x2 0))
    else
    some (0, v))))))
    else
    some (0, v))))
    else
    some (0, v)))
    else
    some (0, v)))
    else
    some (0, v)))
    else
    some (0, v)))
    else
    some (0, v))))
    else
    f_L_areDrawersSo_L31 (fun v x1 x2 x3 x4 x5 x6 => f_L_areDrawersSo_L15 n v x1 x2 x3 x4 x5 x6) n v x1 x2 x3 x4 x5 x6 0 0 0)
def f_L_areDrawersSo (n0 : Nat) (v0 : DV) : Option (Int32 × DV) :=
    f_L_areDrawersSo_L15 n0 v0 0 0 0 0 1 0
def f_L_isRegretSo_J159 (n : Nat) (v : DV) (x3 : Int32) (x5 : Int32) : Option (Int32 × DV) :=
    (if x5 = 0 then
    some (0, v)
    else
    (if x3 = (-5) then
    some (1, v)
    else
    some (0, v)))
def f_L_isRegretSo_J140 (n : Nat) (v : DV) (x1 : Int32) (x2 : Int32) (x3 : Int32) (x5 : Int32) : Option (Int32 × DV) :=
    bd2 (f_X6_ofLetter n v x1 4) (fun r143 v143 =>
    (if r143 = 1 then
    bd2 (f_X6_ofLetter n v143 x2 4) (fun r153 v153 =>
    (if r153 = 0 then
    bd2 (f_X6_ofLetter n v153 x1 7) (fun r180 v180 =>
    (if x5 = 0 then
    some (0, v180)
    else
    (if x3 < r180 then
    some (0, v180)
    else
    bd2 (f_X6_ofLetter n v180 x2 6) (fun r200 v200 =>
    (if r200 = x1 then
    bd2 (f_X6_ofLetter n v200 x1 2) (fun r211 v211 =>
    bd2 (f_X6_ofLetter n v211 x2 2) (fun r217 v217 =>
    (if x3 < (r211 + (r217 / 2)) then
    some (0, v217)
    else
    some (1, v217))))
    else
    some (1, v200))))))
    else
    f_L_isRegretSo_J159 n v153 x3 x5))
    else
    f_L_isRegretSo_J159 n v143 x3 x5))
def f_L_isRegretSo_L51 : Nat → DV → Int32 → Int32 → Int32 → Int32 → Int32 → Int32 → Option (Int32 × DV)
  | 0, _, _, _, _, _, _, _ => none
  | n + 1, v, x1, x2, x3, x4, x5, x6 =>
    bd1 (f_X6_count n v 2) (fun r55 =>
    (if r55 ≤ x6 then
    f_L_isRegretSo_J140 n v x1 x2 x3 x5
    else
    (if x4 < 0 then
    f_L_isRegretSo_J140 n v x1 x2 x3 x5
    else
    (if x5 = 0 then
    f_L_isRegretSo_L51 n v x1 x2 x3 x4 0 (x6 + 1)
    else
    bd2 (f_X6_ofLetter n v x6 7) (fun r76 v76 =>
    bd2 (f_X6_ofLetter n v76 x4 7) (fun r84 v84 =>
    (if r76 < r84 then
    f_L_isRegretSo_L51 n v84 x1 x2 x3 x4 1 (x6 + 1)
    else
    bd2 (f_X6_ofLetter n v84 x6 7) (fun r95 v95 =>
    bd2 (f_X6_ofLetter n v95 x4 7) (fun r103 v103 =>
    (if r95 = r103 then
    (if x4 ≤ x6 then
    f_L_isRegretSo_L51 n v103 x1 x2 x3 x4 1 (x6 + 1)
    else
    bd2 (f_X6_ofLetter n v103 x6 4) (fun r120 v120 =>
    (if r120 = 1 then
    f_L_isRegretSo_L51 n v120 x1 x2 x3 x4 0 (x6 + 1)
    else
    f_L_isRegretSo_L51 n v120 x1 x2 x3 x4 1 (x6 + 1))))
    else
    f_L_isRegretSo_L51 n v103 x1 x2 x3 x4 0 (x6 + 1)))))))))))
def f_L_isRegretSo_J25 (n : Nat) (v : DV) (x1 : Int32) (x2 : Int32) (x3 : Int32) (x4 : Int32) (z0 : Int32) : Option (Int32 × DV) :=
    bd1 (f_X6_count n v 4) (fun r27 =>
    (if r27 = 0 then
    (if z0 = 1 then
    f_L_isRegretSo_L51 n v x1 x2 x3 x4 1 0
    else
    f_L_isRegretSo_L51 n v x1 x2 x3 x4 0 0)
    else
    (if z0 = 0 then
    f_L_isRegretSo_L51 n v x1 x2 x3 x4 1 0
    else
    f_L_isRegretSo_L51 n v x1 x2 x3 x4 0 0)))
def f_L_isRegretSo (n0 : Nat) (v0 : DV) (p1 : Int32) (p2 : Int32) : Option (Int32 × DV) :=
    bd2 (f_X6_ifSent n0 v0 p1 p2) (fun r3 v3 =>
    bd2 (f_X6_mostRegretted n0 v3) (fun r8 v8 =>
    (if r8 = (-6) then
    f_L_isRegretSo_J25 n0 v8 p1 p2 r3 r8 1
    else
    f_L_isRegretSo_J25 n0 v8 p1 p2 r3 r8 0)))
def f_L_does_J172 (n : Nat) (v : DV) (l : List DV) (x1 : Int32) (z0 : Int32) (z1 : Int32) : Option (Int32 × DV × List DV) :=
    bd1 (f_L_low (x1 >>> (9 &&& 31)) 24) (fun r178 =>
    bd1 (f_L_low (x1 >>> (14 &&& 31)) 24) (fun r187 =>
    (if r178 = r187 then
    bd1 (f_L_low (x1 >>> (9 &&& 31)) 24) (fun r199 =>
    ck (kOK v l) (bd3 (chgK (kV v) (f_X0_changeHours v z1 z0 ((r199 + 1) - (r199 + 1) / 24 * 24)) v l) (fun r219 v219 l219 =>
    some (r219, v219, l219))))
    else
    bd1 (f_L_low (x1 >>> (14 &&& 31)) 24) (fun r216 =>
    ck (kOK v l) (bd3 (chgK (kV v) (f_X0_changeHours v z1 z0 r216) v l) (fun r219 v219 l219 =>
    some (r219, v219, l219)))))))
def f_L_does (n0 : Nat) (v0 : DV) (l0 : List DV) (p1 : Int32) : Option (Int32 × DV × List DV) :=
    bd1 (f_L_low (p1 >>> (4 &&& 31)) 6) (fun r5 =>
    (if (p1 &&& 15) = 0 then
    bd1 (f_L_low (p1 >>> (7 &&& 31)) 70) (fun r72 =>
    (if ((p1 >>> (14 &&& 31)) &&& 1) = 0 then
    ck (kOK v0 l0) (bd3 (chgK (kV v0) (f_X0_writeLetter n0 v0 r5 r72 (-6)) v0 l0) (fun r97 v97 l97 =>
    some (r97, v97, l97)))
    else
    bd2 (f_L_sent n0 v0 (p1 >>> (15 &&& 31))) (fun r94 v94 =>
    ck (kOK v94 l0) (bd3 (chgK (kV v94) (f_X0_writeLetter n0 v94 r5 r72 r94) v94 l0) (fun r97 v97 l97 =>
    some (r97, v97, l97))))))
    else
    (if (p1 &&& 15) = 1 then
    bd1 (f_L_low (p1 >>> (7 &&& 31)) 70) (fun r72 =>
    (if ((p1 >>> (14 &&& 31)) &&& 1) = 0 then
    ck (kOK v0 l0) (bd3 (chgK (kV v0) (f_X0_writeLetter n0 v0 r5 r72 (-6)) v0 l0) (fun r97 v97 l97 =>
    some (r97, v97, l97)))
    else
    bd2 (f_L_sent n0 v0 (p1 >>> (15 &&& 31))) (fun r94 v94 =>
    ck (kOK v94 l0) (bd3 (chgK (kV v94) (f_X0_writeLetter n0 v94 r5 r72 r94) v94 l0) (fun r97 v97 l97 =>
    some (r97, v97, l97))))))
    else
    (if (p1 &&& 15) = 2 then
    bd1 (f_L_low (p1 >>> (7 &&& 31)) 70) (fun r72 =>
    (if ((p1 >>> (14 &&& 31)) &&& 1) = 0 then
    ck (kOK v0 l0) (bd3 (chgK (kV v0) (f_X0_writeLetter n0 v0 r5 r72 (-6)) v0 l0) (fun r97 v97 l97 =>
    some (r97, v97, l97)))
    else
    bd2 (f_L_sent n0 v0 (p1 >>> (15 &&& 31))) (fun r94 v94 =>
    ck (kOK v94 l0) (bd3 (chgK (kV v94) (f_X0_writeLetter n0 v94 r5 r72 r94) v94 l0) (fun r97 v97 l97 =>
    some (r97, v97, l97))))))
    else
    (if (p1 &&& 15) = 3 then
    bd1 (f_L_low (p1 >>> (7 &&& 31)) 70) (fun r72 =>
    (if ((p1 >>> (14 &&& 31)) &&& 1) = 0 then
    ck (kOK v0 l0) (bd3 (chgK (kV v0) (f_X0_writeLetter n0 v0 r5 r72 (-6)) v0 l0) (fun r97 v97 l97 =>
    some (r97, v97, l97)))
    else
    bd2 (f_L_sent n0 v0 (p1 >>> (15 &&& 31))) (fun r94 v94 =>
    ck (kOK v94 l0) (bd3 (chgK (kV v94) (f_X0_writeLetter n0 v94 r5 r72 r94) v94 l0) (fun r97 v97 l97 =>
    some (r97, v97, l97))))))
    else
    (if (p1 &&& 15) = 4 then
    (if ((p1 >>> (7 &&& 31)) &&& 3) = 0 then
    ck (kOK v0 l0) (bd3 (chgK (kV v0) (f_X0_turnKey v0 r5) v0 l0) (fun r112 v112 l112 =>
    some (r112, v112, l112)))
    else
    bd1 (f_L_low (p1 >>> (9 &&& 31)) 4) (fun r125 =>
    ck (kOK v0 l0) (bd3 (chgK (kV v0) (f_X0_changeRest v0 r5 r125) v0 l0) (fun r128 v128 l128 =>
    some (r128, v128, l128)))))
    else
    (if (p1 &&& 15) = 5 then
    bd1 (f_L_low (p1 >>> (7 &&& 31)) 31) (fun r140 =>
    ck (kOK v0 l0) (bd3 (chgK (kV v0) (f_X0_changeRest v0 r5 r140) v0 l0) (fun r143 v143 l143 =>
    some (r143, v143, l143))))
    else
    (if (p1 &&& 15) = 6 then
    (if ((p1 >>> (7 &&& 31)) &&& 3) = 0 then
    f_L_does_J172 n0 v0 l0 p1 (-6) r5
    else
    bd1 (f_L_low (p1 >>> (9 &&& 31)) 24) (fun r169 =>
    f_L_does_J172 n0 v0 l0 p1 r169 r5))
    else
    (if (p1 &&& 15) = 7 then
    bd1 (f_X6_count n0 v0 2) (fun r225 =>
    (if r225 = 0 then
    some (0, v0, l0)
    else
    bd1 (f_X6_count n0 v0 2) (fun r241 =>
    bd1 (f_L_low (p1 >>> (4 &&& 31)) r241) (fun r244 =>
    ck (kOK v0 l0) (bd3 (chgK (kV v0) (f_X0_burnLetter v0 r244) v0 l0) (fun r247 v247 l247 =>
    some (r247, v247, l247)))))))
    else
    (if (p1 &&& 15) = 8 then
    bd1 (f_L_low (p1 >>> (4 &&& 31)) 3) (fun r255 =>
    (if r255 = 0 then
    bd1 (f_L_low (p1 >>> (6 &&& 31)) 24) (fun r271 =>
    ck (kOK v0 l0) (bd3 (chgK (kV v0) (f_X0_changeSetting v0 r255 r271) v0 l0) (fun r303 v303 l303 =>
    some (r303, v303, l303))))
    else
    (if r255 = 1 then
    bd1 (f_L_low (p1 >>> (6 &&& 31)) 100) (fun r288 =>
    ck (kOK v0 l0) (bd3 (chgK (kV v0) (f_X0_changeSetting v0 r255 r288) v0 l0) (fun r303 v303 l303 =>
    some (r303, v303, l303))))
    else
    bd1 (f_L_low (p1 >>> (6 &&& 31)) 21) (fun r300 =>
    ck (kOK v0 l0) (bd3 (chgK (kV v0) (f_X0_changeSetting v0 r255 r300) v0 l0) (fun r303 v303 l303 =>
    some (r303, v303, l303)))))))
    else
    bd1 (f_L_low (p1 >>> (4 &&& 31)) 40) (fun r314 =>
    ck (kOK v0 l0) (bd3 (chgK (kV v0) (f_X0_passHours n0 v0 (1 + r314)) v0 l0) (fun r318 v318 l318 =>
    some (r318, v318, l318))))))))))))))
def f_L_isGoneSo_J28 (n : Nat) (v : DV) (l : List DV) (x2 : Int32) (x3 : Int32) : Option (Int32 × DV × List DV) :=
    (if x2 = 0 then
    some (1, v, l)
    else
    (if x2 = 1 then
    (if x3 = 0 then
    some (1, v, l)
    else
    some (0, v, l))
    else
    (if x3 = (-5) then
    some (1, v, l)
    else
    some (0, v, l))))
def f_L_isGoneSo_J206 (n : Nat) (v : DV) (l : List DV) (x1 : Int32) (x5 : Int32) (x6 : Int32) (z0 : Int32) : Option (Int32 × DV × List DV) :=
    (if x6 = 0 then
    some (0, v, l)
    else
    (if z0 < 0 then
    some (0, v, l)
    else
    (if x5 < 0 then
    some (0, v, l)
    else
    bd2 (f_X6_ofLetter n v x1 4) (fun r226 v226 =>
    (if r226 = 0 then
    some (1, v226, l)
    else
    some (0, v226, l))))))
def f_L_isGoneSo_J183 (n : Nat) (v : DV) (l : List DV) (x1 : Int32) (x4 : Int32) (x5 : Int32) (z0 : Int32) : Option (Int32 × DV × List DV) :=
    ck (kOK v l) (bd2 (undoF v l) (fun r186 v186 =>
    (if x4 ≤ 1 then
    f_L_isGoneSo_J206 n v186 l x1 x5 z0 r186
    else
    ck (kOK v186 l) (bd2 (undoF v186 l) (fun r198 v198 =>
    f_L_isGoneSo_J206 n v198 l x1 x5 z0 r198)))))
def f_L_isGoneSo_J182 (n : Nat) (v : DV) (l : List DV) (x1 : Int32) (x4 : Int32) (x5 : Int32) : Option (Int32 × DV × List DV) :=
    f_L_isGoneSo_J183 n v l x1 x4 x5 0
def f_L_isGoneSo_J178 (n : Nat) (v : DV) (l : List DV) (x1 : Int32) (x4 : Int32) (x5 : Int32) : Option (Int32 × DV × List DV) :=
    f_L_isGoneSo_J183 n v l x1 x4 x5 1
def f_L_isGoneSo_J149 (n : Nat) (v : DV) (l : List DV) (x1 : Int32) (x3 : Int32) (x4 : Int32) (x5 : Int32) (x7 : Int32) (z0 : Int32) (z1 : Int32) : Option (Int32 × DV × List DV) :=
    (if z1 = z0 then
    (if x4 = x3 then
    (if x7 ≤ 0 then
    f_L_isGoneSo_J182 n v l x1 x4 x5
    else
    bd2 (f_X6_ofLetter n v x1 2) (fun r166 v166 =>
    bd1 (f_X6_count n v166 8) (fun r172 =>
    (if r172 < r166 then
    f_L_isGoneSo_J182 n v166 l x1 x4 x5
    else
    f_L_isGoneSo_J178 n v166 l x1 x4 x5))))
    else
    f_L_isGoneSo_J178 n v l x1 x4 x5)
    else
    f_L_isGoneSo_J182 n v l x1 x4 x5)
def f_L_isGoneSo_J138 (n : Nat) (v : DV) (l : List DV) (x1 : Int32) (x3 : Int32) (x4 : Int32) (x5 : Int32) (x7 : Int32) (z0 : Int32) : Option (Int32 × DV × List DV) :=
    (if x4 = x3 then
    f_L_isGoneSo_J149 n v l x1 x3 x4 x5 x7 1 z0
    else
    f_L_isGoneSo_J149 n v l x1 x3 x4 x5 x7 0 z0)
def f_L_isGoneSo_J109 (n : Nat) (v : DV) (l : List DV) (x1 : Int32) (x3 : Int32) (x4 : Int32) (x5 : Int32) (z0 : Int32) : Option (Int32 × DV × List DV) :=
    ck (kOK v l) (bd3 (chgK (kV v) (f_X0_passHours n v 1) v l) (fun r113 v113 l113 =>
    (if z0 = 0 then
    f_L_isGoneSo_J182 n v113 l113 x1 x4 x5
    else
    bd2 (f_X6_ofLetter n v113 x1 4) (fun r126 v126 =>
    (if r126 = 1 then
    f_L_isGoneSo_J138 n v126 l113 x1 x3 x4 x5 r113 1
    else
    f_L_isGoneSo_J138 n v126 l113 x1 x3 x4 x5 r113 0)))))
def f_L_isGoneSo_J93 (n : Nat) (v : DV) (l : List DV) (x1 : Int32) (x3 : Int32) (x4 : Int32) (z0 : Int32) : Option (Int32 × DV × List DV) :=
    bd2 (f_X6_ofLetter n v x1 4) (fun r98 v98 =>
    (if r98 = 0 then
    f_L_isGoneSo_J109 n v98 l x1 x3 x4 z0 1
    else
    f_L_isGoneSo_J109 n v98 l x1 x3 x4 z0 0))
def f_L_isGoneSo_J73 (n : Nat) (v : DV) (l : List DV) (x1 : Int32) (x3 : Int32) (z0 : Int32) : Option (Int32 × DV × List DV) :=
    (if z0 ≤ 1 then
    f_L_isGoneSo_J93 n v l x1 x3 z0 0
    else
    ck (kOK v l) (bd3 (chgK (kV v) (f_X0_passHours n v (z0 - 1)) v l) (fun r86 v86 l86 =>
    f_L_isGoneSo_J93 n v86 l86 x1 x3 z0 r86)))
def f_L_isGoneSo_J66 (n : Nat) (v : DV) (l : List DV) (x1 : Int32) (x3 : Int32) : Option (Int32 × DV × List DV) :=
    f_L_isGoneSo_J73 n v l x1 x3 240
def f_L_isGoneSo (n0 : Nat) (v0 : DV) (l0 : List DV) (p1 : Int32) : Option (Int32 × DV × List DV) :=
    bd2 (f_X6_ofLetter n0 v0 p1 4) (fun r3 v3 =>
    bd1 (f_X6_goesIn n0 v3 p1) (fun r9 =>
    (if 0 < r3 then
    f_L_isGoneSo_J28 n0 v3 l0 r3 r9
    else
    bd1 (f_X6_count n0 v3 0) (fun r19 =>
    (if r19 ≤ 900 then
    (if r9 = (-6) then
    f_L_isGoneSo_J66 n0 v3 l0 p1 r9
    else
    (if r9 ≤ 240 then
    f_L_isGoneSo_J73 n0 v3 l0 p1 r9 r9
    else
    f_L_isGoneSo_J66 n0 v3 l0 p1 r9))
    else
    f_L_isGoneSo_J28 n0 v3 l0 r3 r9)))))
def f_L_isPostSo_J130 (n : Nat) (v : DV) (l : List DV) (x5 : Int32) (x7 : Int32) : Option (Int32 × DV × List DV) :=
    (if x7 < 0 then
    some (0, v, l)
    else
    (if x5 < 0 then
    some (0, v, l)
    else
    some (1, v, l)))
def f_L_isPostSo_J62 (n : Nat) (v : DV) (l : List DV) (x1 : Int32) (x2 : Int32) (x3 : Int32) (x4 : Int32) (z0 : Int32) : Option (Int32 × DV × List DV) :=
    ck (kOK v l) (bd2 (undoF v l) (fun r65 v65 =>
    ck (kOK v65 l) (bd2 (undoF v65 l) (fun r71 v71 =>
    ck (kOK v71 l) (bd3 (chgK (kV v71) (f_X0_changeSetting v71 0 x2) v71 l) (fun r79 v79 l79 =>
    ck (kOK v79 l79) (bd3 (chgK (kV v79) (f_X0_passHours n v79 (24 * x1)) v79 l79) (fun r89 v89 l89 =>
    ck (kOK v89 l89) (bd2 (undoF v89 l89) (fun r95 v95 =>
    ck (kOK v95 l89) (bd2 (undoF v95 l89) (fun r101 v101 =>
    (if z0 = 0 then
    some (0, v101, l89)
    else
    (if r89 < x4 then
    f_L_isPostSo_J130 n v101 l89 r79 r101
    else
    (if r89 = x4 then
    (if x2 < x3 then
    some (0, v101, l89)
    else
    f_L_isPostSo_J130 n v101 l89 r79 r101)
    else
    some (0, v101, l89))))))))))))))))
def f_L_isPostSo (n0 : Nat) (v0 : DV) (l0 : List DV) (p1 : Int32) (p2 : Int32) : Option (Int32 × DV × List DV) :=
    bd1 (f_X6_bestPost n0 v0 p1 0) (fun r3 =>
    bd1 (f_X6_bestPost n0 v0 p1 1) (fun r10 =>
    bd1 (f_X6_count n0 v0 0) (fun r17 =>
    (if r17 ≤ 900 then
    ck (kOK v0 l0) (bd3 (chgK (kV v0) (f_X0_changeSetting v0 0 r3) v0 l0) (fun r39 v39 l39 =>
    ck (kOK v39 l39) (bd3 (chgK (kV v39) (f_X0_passHours n0 v39 (24 * p1)) v39 l39) (fun r49 v49 l49 =>
    (if r49 = r10 then
    f_L_isPostSo_J62 n0 v49 l49 p1 p2 r3 r10 1
    else
    f_L_isPostSo_J62 n0 v49 l49 p1 p2 r3 r10 0)))))
    else
    (if r3 < 0 then
    some (0, v0, l0)
    else
    some (1, v0, l0))))))
