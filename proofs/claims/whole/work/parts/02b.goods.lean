set_option maxRecDepth 20000 in
theorem ggX0_findPrimes_X0_addPrime : GoodIn wsX0_findPrimes wsX0_addPrime := goodIn_r _ [7, 2, 8, 9, 10, 11, 12, 13, 14, 15, 16, 17, 18] (by decide +kernel) (by decide +kernel)
set_option maxRecDepth 20000 in
theorem gX0_findPrimes_X0_addPrime : GoodIn wsX0_findPrimes (wsV RX0 109 RX0 yX0_addPrime wsX0_addPrime) := goodIn_app (goodIn_of _ (by decide +kernel)) ggX0_findPrimes_X0_addPrime
set_option maxRecDepth 20000 in
theorem ggX0_sortRising_X0_isRising : GoodIn wsX0_sortRising wsX0_isRising := goodIn_r _ [5] (by decide +kernel) (by decide +kernel)
set_option maxRecDepth 20000 in
theorem gX0_sortRising_X0_isRising : GoodIn wsX0_sortRising (va_wsS RX0 148 yX0_isRising wsX0_isRising) := goodIn_app (goodIn_of _ (by decide +kernel)) ggX0_sortRising_X0_isRising
set_option maxRecDepth 20000 in
theorem ggX0_sortRising_X0_mergeRuns : GoodIn wsX0_sortRising wsX0_mergeRuns := goodIn_r _ [12] (by decide +kernel) (by decide +kernel)
set_option maxRecDepth 20000 in
theorem gX0_sortRising_X0_mergeRuns : GoodIn wsX0_sortRising (va_wsS RX0 157 yX0_mergeRuns wsX0_mergeRuns) := goodIn_app (goodIn_of _ (by decide +kernel)) ggX0_sortRising_X0_mergeRuns
set_option maxRecDepth 20000 in
theorem ggX0_findDivisors_X0_addMultiples : GoodIn wsX0_findDivisors wsX0_addMultiples := goodIn_r _ [10, 2, 1, 30, 31, 32, 33, 34, 35, 36, 37, 38] (by decide +kernel) (by decide +kernel)
set_option maxRecDepth 20000 in
theorem gX0_findDivisors_X0_addMultiples : GoodIn wsX0_findDivisors (wsV RX0 113 RX0 yX0_addMultiples wsX0_addMultiples) := goodIn_app (goodIn_of _ (by decide +kernel)) ggX0_findDivisors_X0_addMultiples
set_option maxRecDepth 20000 in
theorem ggX0_findDivisors_X0_sortRising : GoodIn wsX0_findDivisors wsX0_sortRising := goodIn_r _ [14, 15, 16, 17, 9, 18, 19, 20, 21, 22, 23, 24, 25, 26, 27, 28, 29, 30, 31, 32, 33, 34, 35, 36, 37, 38] (by decide +kernel) (by decide +kernel)
set_option maxRecDepth 20000 in
theorem gX0_findDivisors_X0_sortRising : GoodIn wsX0_findDivisors (wsV RX0 103 RX0 yX0_sortRising wsX0_sortRising) := goodIn_app (goodIn_of _ (by decide +kernel)) ggX0_findDivisors_X0_sortRising
set_option maxRecDepth 20000 in
theorem ggX0_take_X0_findPrimes : GoodIn wsX0_take wsX0_findPrimes := goodIn_r _ [8, 2, 9, 10, 11, 12, 7, 13, 14, 15, 47, 48, 49, 50, 51, 52, 53, 54, 55] (by decide +kernel) (by decide +kernel)
set_option maxRecDepth 20000 in
theorem gX0_take_X0_findPrimes : GoodIn wsX0_take (wsV RX0 46 RX0 yX0_findPrimes wsX0_findPrimes) := goodIn_app (goodIn_of _ (by decide +kernel)) ggX0_take_X0_findPrimes
set_option maxRecDepth 20000 in
theorem ggX0_take_X0_findDivisors : GoodIn wsX0_take wsX0_findDivisors := goodIn_r _ [19, 20, 21, 9, 15, 14, 22, 23, 24, 7, 25, 26, 27, 28, 29, 30, 31, 32, 33, 34, 35, 36, 37, 38, 39, 40, 41, 42, 43, 44, 47, 48, 49, 50, 51, 52, 53, 54, 55] (by decide +kernel) (by decide +kernel)
set_option maxRecDepth 20000 in
theorem gX0_take_X0_findDivisors : GoodIn wsX0_take (wsV RX0 49 RX0 yX0_findDivisors wsX0_findDivisors) := goodIn_app (goodIn_of _ (by decide +kernel)) ggX0_take_X0_findDivisors
set_option maxRecDepth 20000 in
theorem ggX0_count_X0_countCoprimes : GoodIn wsX0_count wsX0_countCoprimes := goodIn_r _ [8, 2, 9, 10, 16, 17, 18, 19, 20, 21, 22, 23, 24] (by decide +kernel) (by decide +kernel)
set_option maxRecDepth 20000 in
theorem gX0_count_X0_countCoprimes : GoodIn wsX0_count (wsV RX0 59 RX0 yX0_countCoprimes wsX0_countCoprimes) := goodIn_app (goodIn_of _ (by decide +kernel)) ggX0_count_X0_countCoprimes
set_option maxRecDepth 20000 in
theorem ggX0_count_X0_greatestSquaredDivisor : GoodIn wsX0_count wsX0_greatestSquaredDivisor := goodIn_r _ [14, 2, 10, 9, 16, 17, 18, 19, 20, 21, 22, 23, 24] (by decide +kernel) (by decide +kernel)
set_option maxRecDepth 20000 in
theorem gX0_count_X0_greatestSquaredDivisor : GoodIn wsX0_count (wsV RX0 63 RX0 yX0_greatestSquaredDivisor wsX0_greatestSquaredDivisor) := goodIn_app (goodIn_of _ (by decide +kernel)) ggX0_count_X0_greatestSquaredDivisor
set_option maxRecDepth 20000 in
theorem ggX0_jacobi_X0_residue : GoodIn wsX0_jacobi wsX0_residue := goodIn_r _ [4] (by decide +kernel) (by decide +kernel)
set_option maxRecDepth 20000 in
theorem gX0_jacobi_X0_residue : GoodIn wsX0_jacobi (va_wsS RX0 93 yX0_residue wsX0_residue) := goodIn_app (goodIn_of _ (by decide +kernel)) ggX0_jacobi_X0_residue
set_option maxRecDepth 20000 in
theorem ggX0_jacobi_X0_symbolWithTwo : GoodIn wsX0_jacobi wsX0_symbolWithTwo := goodIn_r _ [7, 8, 9] (by decide +kernel) (by decide +kernel)
set_option maxRecDepth 20000 in
theorem gX0_jacobi_X0_symbolWithTwo : GoodIn wsX0_jacobi (va_wsS RX0 71 yX0_symbolWithTwo wsX0_symbolWithTwo) := goodIn_app (goodIn_of _ (by decide +kernel)) ggX0_jacobi_X0_symbolWithTwo
set_option maxRecDepth 20000 in
theorem ggX0_kronecker_X0_symbolWithTwo : GoodIn wsX0_kronecker wsX0_symbolWithTwo := goodIn_r _ [6, 7, 8] (by decide +kernel) (by decide +kernel)
set_option maxRecDepth 20000 in
theorem gX0_kronecker_X0_symbolWithTwo : GoodIn wsX0_kronecker (va_wsS RX0 71 yX0_symbolWithTwo wsX0_symbolWithTwo) := goodIn_app (goodIn_of _ (by decide +kernel)) ggX0_kronecker_X0_symbolWithTwo
set_option maxRecDepth 20000 in
theorem ggX0_kronecker_X0_jacobi : GoodIn wsX0_kronecker wsX0_jacobi := goodIn_r _ [11, 12, 13, 5, 14, 3, 4, 6, 7, 8] (by decide +kernel) (by decide +kernel)
set_option maxRecDepth 20000 in
theorem gX0_kronecker_X0_jacobi : GoodIn wsX0_kronecker (va_wsS RX0 75 yX0_jacobi wsX0_jacobi) := goodIn_app (goodIn_of _ (by decide +kernel)) ggX0_kronecker_X0_jacobi
set_option maxRecDepth 20000 in
theorem ggX0_raise_X0_residue : GoodIn wsX0_raise wsX0_residue := goodIn_r _ [4] (by decide +kernel) (by decide +kernel)
set_option maxRecDepth 20000 in
theorem gX0_raise_X0_residue : GoodIn wsX0_raise (va_wsS RX0 93 yX0_residue wsX0_residue) := goodIn_app (goodIn_of _ (by decide +kernel)) ggX0_raise_X0_residue
set_option maxRecDepth 20000 in
theorem ggX0_power_X0_raise : GoodIn wsX0_power wsX0_raise := goodIn_r _ [5, 6, 7, 4, 8, 9] (by decide +kernel) (by decide +kernel)
set_option maxRecDepth 20000 in
theorem gX0_power_X0_raise : GoodIn wsX0_power (va_wsS RX0 81 yX0_raise wsX0_raise) := goodIn_app (goodIn_of _ (by decide +kernel)) ggX0_power_X0_raise
set_option maxRecDepth 20000 in
theorem ggX0_invert_X0_residue : GoodIn wsX0_invert wsX0_residue := goodIn_r _ [4] (by decide +kernel) (by decide +kernel)
set_option maxRecDepth 20000 in
theorem gX0_invert_X0_residue : GoodIn wsX0_invert (va_wsS RX0 93 yX0_residue wsX0_residue) := goodIn_app (goodIn_of _ (by decide +kernel)) ggX0_invert_X0_residue
set_option maxRecDepth 20000 in
theorem ggX0_inverse_X0_invert : GoodIn wsX0_inverse wsX0_invert := goodIn_r _ [5, 6, 7, 4, 8] (by decide +kernel) (by decide +kernel)
set_option maxRecDepth 20000 in
theorem gX0_inverse_X0_invert : GoodIn wsX0_inverse (va_wsS RX0 85 yX0_invert wsX0_invert) := goodIn_app (goodIn_of _ (by decide +kernel)) ggX0_inverse_X0_invert
set_option maxRecDepth 20000 in
theorem ggX0_nonresidue_X0_jacobi : GoodIn wsX0_nonresidue wsX0_jacobi := goodIn_r _ [4, 5, 6, 3, 7, 8, 9, 10, 11, 12] (by decide +kernel) (by decide +kernel)
set_option maxRecDepth 20000 in
theorem gX0_nonresidue_X0_jacobi : GoodIn wsX0_nonresidue (va_wsS RX0 75 yX0_jacobi wsX0_jacobi) := goodIn_app (goodIn_of _ (by decide +kernel)) ggX0_nonresidue_X0_jacobi
set_option maxRecDepth 20000 in
theorem ggX0_rootByTonelli_X0_raise : GoodIn wsX0_rootByTonelli wsX0_raise := goodIn_r _ [4, 5, 6, 3, 7, 8] (by decide +kernel) (by decide +kernel)
set_option maxRecDepth 20000 in
theorem gX0_rootByTonelli_X0_raise : GoodIn wsX0_rootByTonelli (va_wsS RX0 81 yX0_raise wsX0_raise) := goodIn_app (goodIn_of _ (by decide +kernel)) ggX0_rootByTonelli_X0_raise
set_option maxRecDepth 20000 in
theorem ggX0_rootByTonelli_X0_nonresidue : GoodIn wsX0_rootByTonelli wsX0_nonresidue := goodIn_r _ [11, 12, 13, 3, 14, 5, 6, 7, 15, 16, 17, 18, 8] (by decide +kernel) (by decide +kernel)
set_option maxRecDepth 20000 in
theorem gX0_rootByTonelli_X0_nonresidue : GoodIn wsX0_rootByTonelli (va_wsS RX0 142 yX0_nonresidue wsX0_nonresidue) := goodIn_app (goodIn_of _ (by decide +kernel)) ggX0_rootByTonelli_X0_nonresidue
set_option maxRecDepth 20000 in
theorem ggX0_rootByTonelli_X0_residue : GoodIn wsX0_rootByTonelli wsX0_residue := goodIn_r _ [7] (by decide +kernel) (by decide +kernel)
set_option maxRecDepth 20000 in
theorem gX0_rootByTonelli_X0_residue : GoodIn wsX0_rootByTonelli (va_wsS RX0 93 yX0_residue wsX0_residue) := goodIn_app (goodIn_of _ (by decide +kernel)) ggX0_rootByTonelli_X0_residue
set_option maxRecDepth 20000 in
theorem ggX0_rootModuloPrime_X0_jacobi : GoodIn wsX0_rootModuloPrime wsX0_jacobi := goodIn_r _ [4, 5, 6, 3, 7, 8, 9, 10, 11, 12] (by decide +kernel) (by decide +kernel)
set_option maxRecDepth 20000 in
theorem gX0_rootModuloPrime_X0_jacobi : GoodIn wsX0_rootModuloPrime (va_wsS RX0 75 yX0_jacobi wsX0_jacobi) := goodIn_app (goodIn_of _ (by decide +kernel)) ggX0_rootModuloPrime_X0_jacobi
set_option maxRecDepth 20000 in
theorem ggX0_rootModuloPrime_X0_rootByTonelli : GoodIn wsX0_rootModuloPrime wsX0_rootByTonelli := goodIn_r _ [15, 16, 17, 3, 18, 5, 6, 7, 12, 19, 20, 21, 1, 2, 4, 8, 9, 10, 11] (by decide +kernel) (by decide +kernel)
set_option maxRecDepth 20000 in
theorem gX0_rootModuloPrime_X0_rootByTonelli : GoodIn wsX0_rootModuloPrime (va_wsS RX0 139 yX0_rootByTonelli wsX0_rootByTonelli) := goodIn_app (goodIn_of _ (by decide +kernel)) ggX0_rootModuloPrime_X0_rootByTonelli
set_option maxRecDepth 20000 in
theorem ggX0_joinRootsModuloPrime_X0_residue : GoodIn wsX0_joinRootsModuloPrime wsX0_residue := goodIn_r _ [4] (by decide +kernel) (by decide +kernel)
set_option maxRecDepth 20000 in
theorem gX0_joinRootsModuloPrime_X0_residue : GoodIn wsX0_joinRootsModuloPrime (va_wsS RX0 93 yX0_residue wsX0_residue) := goodIn_app (goodIn_of _ (by decide +kernel)) ggX0_joinRootsModuloPrime_X0_residue
set_option maxRecDepth 20000 in
theorem ggX0_joinRootsModuloPrime_X0_rootModuloPrime : GoodIn wsX0_joinRootsModuloPrime wsX0_rootModuloPrime := goodIn_r _ [7, 8, 9, 3, 10, 1, 2, 4, 11, 12, 13, 14, 15, 16, 17, 18, 19, 20, 21, 22, 23, 24] (by decide +kernel) (by decide +kernel)
set_option maxRecDepth 20000 in
theorem gX0_joinRootsModuloPrime_X0_rootModuloPrime : GoodIn wsX0_joinRootsModuloPrime (va_wsS RX0 116 yX0_rootModuloPrime wsX0_rootModuloPrime) := goodIn_app (goodIn_of _ (by decide +kernel)) ggX0_joinRootsModuloPrime_X0_rootModuloPrime
set_option maxRecDepth 20000 in
theorem ggX0_joinRootsModuloPrime_X0_invert : GoodIn wsX0_joinRootsModuloPrime wsX0_invert := goodIn_r _ [27, 1, 2, 3, 4] (by decide +kernel) (by decide +kernel)
set_option maxRecDepth 20000 in
theorem gX0_joinRootsModuloPrime_X0_invert : GoodIn wsX0_joinRootsModuloPrime (va_wsS RX0 85 yX0_invert wsX0_invert) := goodIn_app (goodIn_of _ (by decide +kernel)) ggX0_joinRootsModuloPrime_X0_invert
set_option maxRecDepth 20000 in
theorem ggX0_joinRootsModuloPrime_X0_swapRows : GoodIn wsX0_joinRootsModuloPrime wsX0_swapRows := goodIn_r _ [32, 33, 34, 39, 40, 41, 42, 43, 44, 45, 46, 47] (by decide +kernel) (by decide +kernel)
set_option maxRecDepth 20000 in
theorem gX0_joinRootsModuloPrime_X0_swapRows : GoodIn wsX0_joinRootsModuloPrime (wsV RX0 120 RX0 yX0_swapRows wsX0_swapRows) := goodIn_app (goodIn_of _ (by decide +kernel)) ggX0_joinRootsModuloPrime_X0_swapRows
set_option maxRecDepth 20000 in
theorem ggX0_joinRootsModuloPrime_X0_addRoot : GoodIn wsX0_joinRootsModuloPrime wsX0_addRoot := goodIn_r _ [38, 28, 33, 39, 40, 41, 42, 43, 44, 45, 46, 47] (by decide +kernel) (by decide +kernel)
set_option maxRecDepth 20000 in
theorem gX0_joinRootsModuloPrime_X0_addRoot : GoodIn wsX0_joinRootsModuloPrime (wsV RX0 123 RX0 yX0_addRoot wsX0_addRoot) := goodIn_app (goodIn_of _ (by decide +kernel)) ggX0_joinRootsModuloPrime_X0_addRoot
set_option maxRecDepth 20000 in
theorem ggX0_excess_X0_residue : GoodIn wsX0_excess wsX0_residue := goodIn_r _ [4] (by decide +kernel) (by decide +kernel)
set_option maxRecDepth 20000 in
theorem gX0_excess_X0_residue : GoodIn wsX0_excess (va_wsS RX0 93 yX0_residue wsX0_residue) := goodIn_app (goodIn_of _ (by decide +kernel)) ggX0_excess_X0_residue
set_option maxRecDepth 20000 in
theorem ggX0_liftByAll_X0_excess : GoodIn wsX0_liftByAll wsX0_excess := goodIn_r _ [6, 7, 8, 5, 9] (by decide +kernel) (by decide +kernel)
set_option maxRecDepth 20000 in
theorem gX0_liftByAll_X0_excess : GoodIn wsX0_liftByAll (va_wsS RX0 133 yX0_excess wsX0_excess) := goodIn_app (goodIn_of _ (by decide +kernel)) ggX0_liftByAll_X0_excess
set_option maxRecDepth 20000 in
theorem ggX0_liftByAll_X0_addRoot : GoodIn wsX0_liftByAll wsX0_addRoot := goodIn_r _ [13, 1, 2, 14, 15, 16, 17, 18, 19, 20, 21, 22] (by decide +kernel) (by decide +kernel)
set_option maxRecDepth 20000 in
theorem gX0_liftByAll_X0_addRoot : GoodIn wsX0_liftByAll (wsV RX0 123 RX0 yX0_addRoot wsX0_addRoot) := goodIn_app (goodIn_of _ (by decide +kernel)) ggX0_liftByAll_X0_addRoot
set_option maxRecDepth 20000 in
theorem ggX0_liftByOne_X0_invert : GoodIn wsX0_liftByOne wsX0_invert := goodIn_r _ [7, 8, 9, 6, 10] (by decide +kernel) (by decide +kernel)
set_option maxRecDepth 20000 in
theorem gX0_liftByOne_X0_invert : GoodIn wsX0_liftByOne (va_wsS RX0 85 yX0_invert wsX0_invert) := goodIn_app (goodIn_of _ (by decide +kernel)) ggX0_liftByOne_X0_invert
set_option maxRecDepth 20000 in
theorem ggX0_liftByOne_X0_excess : GoodIn wsX0_liftByOne wsX0_excess := goodIn_r _ [13, 8, 9, 6, 10] (by decide +kernel) (by decide +kernel)
set_option maxRecDepth 20000 in
theorem gX0_liftByOne_X0_excess : GoodIn wsX0_liftByOne (va_wsS RX0 133 yX0_excess wsX0_excess) := goodIn_app (goodIn_of _ (by decide +kernel)) ggX0_liftByOne_X0_excess
set_option maxRecDepth 20000 in
theorem ggX0_liftByOne_X0_residue : GoodIn wsX0_liftByOne wsX0_residue := goodIn_r _ [10] (by decide +kernel) (by decide +kernel)
set_option maxRecDepth 20000 in
theorem gX0_liftByOne_X0_residue : GoodIn wsX0_liftByOne (va_wsS RX0 93 yX0_residue wsX0_residue) := goodIn_app (goodIn_of _ (by decide +kernel)) ggX0_liftByOne_X0_residue
set_option maxRecDepth 20000 in
theorem ggX0_liftRoots_X0_liftByAll : GoodIn wsX0_liftRoots wsX0_liftByAll := goodIn_r _ [5, 6, 7, 8, 9, 4, 10, 11, 12, 13, 14, 15, 16, 17, 26, 27, 28, 29, 30, 31, 32, 33, 34] (by decide +kernel) (by decide +kernel)
set_option maxRecDepth 20000 in
theorem gX0_liftRoots_X0_liftByAll : GoodIn wsX0_liftRoots (wsV RX0 127 RX0 yX0_liftByAll wsX0_liftByAll) := goodIn_app (goodIn_of _ (by decide +kernel)) ggX0_liftRoots_X0_liftByAll
set_option maxRecDepth 20000 in
theorem ggX0_liftRoots_X0_residue : GoodIn wsX0_liftRoots wsX0_residue := goodIn_r _ [13] (by decide +kernel) (by decide +kernel)
set_option maxRecDepth 20000 in
theorem gX0_liftRoots_X0_residue : GoodIn wsX0_liftRoots (va_wsS RX0 93 yX0_residue wsX0_residue) := goodIn_app (goodIn_of _ (by decide +kernel)) ggX0_liftRoots_X0_residue
set_option maxRecDepth 20000 in
theorem ggX0_liftRoots_X0_liftByOne : GoodIn wsX0_liftRoots wsX0_liftByOne := goodIn_r _ [21, 6, 7, 22, 23, 24, 4, 25, 11, 12, 13, 8, 9, 10, 26, 27, 28, 29, 30, 31, 32, 33, 34] (by decide +kernel) (by decide +kernel)
set_option maxRecDepth 20000 in
theorem gX0_liftRoots_X0_liftByOne : GoodIn wsX0_liftRoots (wsV RX0 130 RX0 yX0_liftByOne wsX0_liftByOne) := goodIn_app (goodIn_of _ (by decide +kernel)) ggX0_liftRoots_X0_liftByOne
set_option maxRecDepth 20000 in
theorem ggX0_roots_X0_residue : GoodIn wsX0_roots wsX0_residue := goodIn_r _ [5] (by decide +kernel) (by decide +kernel)
set_option maxRecDepth 20000 in
theorem gX0_roots_X0_residue : GoodIn wsX0_roots (va_wsS RX0 93 yX0_residue wsX0_residue) := goodIn_app (goodIn_of _ (by decide +kernel)) ggX0_roots_X0_residue
set_option maxRecDepth 20000 in
theorem ggX0_roots_X0_joinRootsModuloPrime : GoodIn wsX0_roots wsX0_joinRootsModuloPrime := goodIn_r _ [13, 2, 3, 4, 5, 14, 15, 16, 17, 18, 19, 20, 21, 22, 23, 24, 25, 26, 27, 28, 29, 30, 31, 32, 33, 34, 35, 36, 7, 37, 38, 39, 40, 6, 41, 42, 43, 44, 45, 80, 81, 82, 83, 84, 85, 86, 87, 88] (by decide +kernel) (by decide +kernel)
set_option maxRecDepth 20000 in
theorem gX0_roots_X0_joinRootsModuloPrime : GoodIn wsX0_roots (wsV RX0 96 RX0 yX0_joinRootsModuloPrime wsX0_joinRootsModuloPrime) := goodIn_app (goodIn_of _ (by decide +kernel)) ggX0_roots_X0_joinRootsModuloPrime
set_option maxRecDepth 20000 in
theorem ggX0_roots_X0_liftRoots : GoodIn wsX0_roots wsX0_liftRoots := goodIn_r _ [50, 51, 52, 53, 4, 54, 7, 6, 55, 56, 57, 2, 3, 5, 42, 43, 44, 45, 58, 59, 60, 61, 24, 34, 35, 36, 80, 81, 82, 83, 84, 85, 86, 87, 88] (by decide +kernel) (by decide +kernel)
set_option maxRecDepth 20000 in
theorem gX0_roots_X0_liftRoots : GoodIn wsX0_roots (wsV RX0 100 RX0 yX0_liftRoots wsX0_liftRoots) := goodIn_app (goodIn_of _ (by decide +kernel)) ggX0_roots_X0_liftRoots
set_option maxRecDepth 20000 in
theorem ggX0_roots_X0_sortRising : GoodIn wsX0_roots wsX0_sortRising := goodIn_r _ [65, 41, 66, 67, 4, 68, 69, 70, 71, 72, 73, 74, 75, 76, 77, 78, 79, 80, 81, 82, 83, 84, 85, 86, 87, 88] (by decide +kernel) (by decide +kernel)
set_option maxRecDepth 20000 in
theorem gX0_roots_X0_sortRising : GoodIn wsX0_roots (wsV RX0 103 RX0 yX0_sortRising wsX0_sortRising) := goodIn_app (goodIn_of _ (by decide +kernel)) ggX0_roots_X0_sortRising
set_option maxRecDepth 20000 in
theorem ggX1_take_X1_in : GoodIn wsX1_take wsX1_in := goodIn_r _ [5] (by decide +kernel) (by decide +kernel)
set_option maxRecDepth 20000 in
theorem gX1_take_X1_in : GoodIn wsX1_take (va_wsS RX1 34 yX1_in wsX1_in) := goodIn_app (goodIn_of _ (by decide +kernel)) ggX1_take_X1_in
set_option maxRecDepth 20000 in
theorem ggX1_take_X1_isPrime : GoodIn wsX1_take wsX1_isPrime := goodIn_r _ [15, 9, 10, 18, 19, 20, 21, 22, 23, 24, 25, 26] (by decide +kernel) (by decide +kernel)
set_option maxRecDepth 20000 in
theorem gX1_take_X1_isPrime : GoodIn wsX1_take (wsV RX1 44 RX1 yX1_isPrime wsX1_isPrime) := goodIn_app (goodIn_of _ (by decide +kernel)) ggX1_take_X1_isPrime
set_option maxRecDepth 20000 in
theorem ggX1_prime_X1_in : GoodIn wsX1_prime wsX1_in := goodIn_r _ [5] (by decide +kernel) (by decide +kernel)
set_option maxRecDepth 20000 in
theorem gX1_prime_X1_in : GoodIn wsX1_prime (va_wsS RX1 34 yX1_in wsX1_in) := goodIn_app (goodIn_of _ (by decide +kernel)) ggX1_prime_X1_in
set_option maxRecDepth 20000 in
theorem ggX1_exponent_X1_in : GoodIn wsX1_exponent wsX1_in := goodIn_r _ [5] (by decide +kernel) (by decide +kernel)
set_option maxRecDepth 20000 in
theorem gX1_exponent_X1_in : GoodIn wsX1_exponent (va_wsS RX1 34 yX1_in wsX1_in) := goodIn_app (goodIn_of _ (by decide +kernel)) ggX1_exponent_X1_in
set_option maxRecDepth 20000 in
theorem ggX1_divisor_X1_in : GoodIn wsX1_divisor wsX1_in := goodIn_r _ [5] (by decide +kernel) (by decide +kernel)
set_option maxRecDepth 20000 in
theorem gX1_divisor_X1_in : GoodIn wsX1_divisor (va_wsS RX1 34 yX1_in wsX1_in) := goodIn_app (goodIn_of _ (by decide +kernel)) ggX1_divisor_X1_in
set_option maxRecDepth 20000 in
theorem ggX1_apart_X1_isApart : GoodIn wsX1_apart wsX1_isApart := goodIn_r _ [6, 7, 8, 9, 10, 11, 12, 13, 14, 15, 16, 17] (by decide +kernel) (by decide +kernel)
set_option maxRecDepth 20000 in
theorem gX1_apart_X1_isApart : GoodIn wsX1_apart (wsV RX1 48 RX1 yX1_isApart wsX1_isApart) := goodIn_app (goodIn_of _ (by decide +kernel)) ggX1_apart_X1_isApart
set_option maxRecDepth 20000 in
theorem ggX1_count_X1_apart : GoodIn wsX1_count wsX1_apart := goodIn_r _ [9, 2, 10, 11, 12, 8, 13, 3, 14, 21, 22, 23, 24, 25, 26, 27, 28, 29] (by decide +kernel) (by decide +kernel)
set_option maxRecDepth 20000 in
theorem gX1_count_X1_apart : GoodIn wsX1_count (wsV RX1 51 RX1 yX1_apart wsX1_apart) := goodIn_app (goodIn_of _ (by decide +kernel)) ggX1_count_X1_apart
set_option maxRecDepth 20000 in
theorem ggX1_count_X1_square : GoodIn wsX1_count wsX1_square := goodIn_r _ [18, 4, 2, 19, 21, 22, 23, 24, 25, 26, 27, 28, 29] (by decide +kernel) (by decide +kernel)
set_option maxRecDepth 20000 in
theorem gX1_count_X1_square : GoodIn wsX1_count (wsV RX1 55 RX1 yX1_square wsX1_square) := goodIn_app (goodIn_of _ (by decide +kernel)) ggX1_count_X1_square
set_option maxRecDepth 20000 in
theorem ggX1_symbol_X1_rest : GoodIn wsX1_symbol wsX1_rest := goodIn_r _ [4] (by decide +kernel) (by decide +kernel)
set_option maxRecDepth 20000 in
theorem gX1_symbol_X1_rest : GoodIn wsX1_symbol (va_wsS RX1 58 yX1_rest wsX1_rest) := goodIn_app (goodIn_of _ (by decide +kernel)) ggX1_symbol_X1_rest
set_option maxRecDepth 20000 in
theorem ggX1_symbolOfTwo_X1_rest : GoodIn wsX1_symbolOfTwo wsX1_rest := goodIn_r _ [5] (by decide +kernel) (by decide +kernel)
set_option maxRecDepth 20000 in
theorem gX1_symbolOfTwo_X1_rest : GoodIn wsX1_symbolOfTwo (va_wsS RX1 58 yX1_rest wsX1_rest) := goodIn_app (goodIn_of _ (by decide +kernel)) ggX1_symbolOfTwo_X1_rest
set_option maxRecDepth 20000 in
theorem ggX1_kronecker_X1_in : GoodIn wsX1_kronecker wsX1_in := goodIn_r _ [6] (by decide +kernel) (by decide +kernel)
set_option maxRecDepth 20000 in
theorem gX1_kronecker_X1_in : GoodIn wsX1_kronecker (va_wsS RX1 34 yX1_in wsX1_in) := goodIn_app (goodIn_of _ (by decide +kernel)) ggX1_kronecker_X1_in
set_option maxRecDepth 20000 in
theorem ggX1_kronecker_X1_symbol : GoodIn wsX1_kronecker wsX1_symbol := goodIn_r _ [10, 11, 12, 5, 13, 14] (by decide +kernel) (by decide +kernel)
set_option maxRecDepth 20000 in
theorem gX1_kronecker_X1_symbol : GoodIn wsX1_kronecker (va_wsS RX1 76 yX1_symbol wsX1_symbol) := goodIn_app (goodIn_of _ (by decide +kernel)) ggX1_kronecker_X1_symbol
set_option maxRecDepth 20000 in
theorem ggX1_kronecker_X1_symbolOfTwo : GoodIn wsX1_kronecker wsX1_symbolOfTwo := goodIn_r _ [17, 18, 11, 12, 5, 13, 14, 19] (by decide +kernel) (by decide +kernel)
set_option maxRecDepth 20000 in
theorem gX1_kronecker_X1_symbolOfTwo : GoodIn wsX1_kronecker (va_wsS RX1 72 yX1_symbolOfTwo wsX1_symbolOfTwo) := goodIn_app (goodIn_of _ (by decide +kernel)) ggX1_kronecker_X1_symbolOfTwo
set_option maxRecDepth 20000 in
theorem ggX1_power_X1_rest : GoodIn wsX1_power wsX1_rest := goodIn_r _ [6] (by decide +kernel) (by decide +kernel)
set_option maxRecDepth 20000 in
theorem gX1_power_X1_rest : GoodIn wsX1_power (va_wsS RX1 58 yX1_rest wsX1_rest) := goodIn_app (goodIn_of _ (by decide +kernel)) ggX1_power_X1_rest
set_option maxRecDepth 20000 in
theorem ggX1_power_X1_times : GoodIn wsX1_power wsX1_times := goodIn_r _ [12, 2, 13, 14, 15, 16, 17, 18, 19, 20, 21] (by decide +kernel) (by decide +kernel)
set_option maxRecDepth 20000 in
theorem gX1_power_X1_times : GoodIn wsX1_power (wsV RX1 84 RX1 yX1_times wsX1_times) := goodIn_app (goodIn_of _ (by decide +kernel)) ggX1_power_X1_times
set_option maxRecDepth 20000 in
theorem ggX1_inverse_X1_rest : GoodIn wsX1_inverse wsX1_rest := goodIn_r _ [6] (by decide +kernel) (by decide +kernel)
set_option maxRecDepth 20000 in
theorem gX1_inverse_X1_rest : GoodIn wsX1_inverse (va_wsS RX1 58 yX1_rest wsX1_rest) := goodIn_app (goodIn_of _ (by decide +kernel)) ggX1_inverse_X1_rest
set_option maxRecDepth 20000 in
theorem ggX1_inverse_X1_raise : GoodIn wsX1_inverse wsX1_raise := goodIn_r _ [10, 1, 11, 12, 13, 14, 15, 16, 17, 18, 19] (by decide +kernel) (by decide +kernel)
set_option maxRecDepth 20000 in
theorem gX1_inverse_X1_raise : GoodIn wsX1_inverse (wsV RX1 87 RX1 yX1_raise wsX1_raise) := goodIn_app (goodIn_of _ (by decide +kernel)) ggX1_inverse_X1_raise
set_option maxRecDepth 20000 in
theorem ggX1_roots_X1_rest : GoodIn wsX1_roots wsX1_rest := goodIn_r _ [6] (by decide +kernel) (by decide +kernel)
set_option maxRecDepth 20000 in
theorem gX1_roots_X1_rest : GoodIn wsX1_roots (va_wsS RX1 58 yX1_rest wsX1_rest) := goodIn_app (goodIn_of _ (by decide +kernel)) ggX1_roots_X1_rest
set_option maxRecDepth 20000 in
theorem ggX1_root_X1_in : GoodIn wsX1_root wsX1_in := goodIn_r _ [5] (by decide +kernel) (by decide +kernel)
set_option maxRecDepth 20000 in
theorem gX1_root_X1_in : GoodIn wsX1_root (va_wsS RX1 34 yX1_in wsX1_in) := goodIn_app (goodIn_of _ (by decide +kernel)) ggX1_root_X1_in
