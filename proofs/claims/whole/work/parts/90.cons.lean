/-! the constructors, in a growing world (by wip/whole/spec68.py) -/
def gl_0 : gL := [(3, 5, [(0, 4, 0), (1, 4, 0), (2, 4, 0), (3, 4, 0), (4, 4, 0), (5, 4, 0), (6, 4, 0), (7, 4, 0), (8, 0, 0)]), (3, 0, [(0, 4, 0), (1, 4, 0), (2, 4, 0), (3, 4, 0), (4, 4, 0), (5, 0, 0), (6, 0, 0), (7, 0, 0), (8, 0, 0)])]
def gl_1 : gL := [(3, 5, [(0, 4, 0), (1, 4, 0), (2, 4, 0), (3, 4, 0), (4, 4, 0), (5, 4, 0), (6, 4, 0), (7, 4, 0), (8, 0, 0)]), (3, 0, [(0, 1, 2), (1, 1, 3), (2, 1, 4), (3, 1, 5), (4, 1, 6), (5, 0, 0), (6, 0, 0), (7, 0, 0), (8, 0, 0)]), (0, 4, []), (0, 4, []), (0, 4, []), (0, 4, []), (0, 4, [])]
def gl_2 : gL := [(3, 5, [(0, 1, 1), (1, 4, 0), (2, 4, 0), (3, 4, 0), (4, 4, 0), (5, 4, 0), (6, 4, 0), (7, 4, 0), (8, 0, 0)]), (3, 0, [(0, 1, 2), (1, 1, 3), (2, 1, 4), (3, 1, 5), (4, 1, 6), (5, 0, 0), (6, 0, 0), (7, 0, 0), (8, 0, 0)]), (0, 4, []), (0, 4, []), (0, 4, []), (0, 4, []), (0, 4, []), (3, 0, [(0, 4, 0), (1, 4, 0), (2, 4, 0), (3, 4, 0), (4, 4, 0), (5, 0, 0), (6, 0, 0), (7, 0, 0), (8, 0, 0)])]
def gl_3 : gL := [(3, 5, [(0, 1, 1), (1, 4, 0), (2, 4, 0), (3, 4, 0), (4, 4, 0), (5, 4, 0), (6, 4, 0), (7, 4, 0), (8, 0, 0)]), (3, 0, [(0, 1, 2), (1, 1, 3), (2, 1, 4), (3, 1, 5), (4, 1, 6), (5, 0, 0), (6, 0, 0), (7, 0, 0), (8, 0, 0)]), (0, 4, []), (0, 4, []), (0, 4, []), (0, 4, []), (0, 4, []), (3, 0, [(0, 1, 8), (1, 1, 9), (2, 1, 10), (3, 1, 11), (4, 1, 12), (5, 0, 0), (6, 0, 0), (7, 0, 0), (8, 0, 0)]), (0, 4, []), (0, 4, []), (0, 4, []), (0, 4, []), (0, 4, [])]
def gl_4 : gL := [(3, 5, [(0, 1, 1), (1, 1, 7), (2, 4, 0), (3, 4, 0), (4, 4, 0), (5, 4, 0), (6, 4, 0), (7, 4, 0), (8, 0, 0)]), (3, 0, [(0, 1, 2), (1, 1, 3), (2, 1, 4), (3, 1, 5), (4, 1, 6), (5, 0, 0), (6, 0, 0), (7, 0, 0), (8, 0, 0)]), (0, 4, []), (0, 4, []), (0, 4, []), (0, 4, []), (0, 4, []), (3, 0, [(0, 1, 8), (1, 1, 9), (2, 1, 10), (3, 1, 11), (4, 1, 12), (5, 0, 0), (6, 0, 0), (7, 0, 0), (8, 0, 0)]), (0, 4, []), (0, 4, []), (0, 4, []), (0, 4, []), (0, 4, []), (3, 0, [(0, 4, 0), (1, 4, 0), (2, 4, 0), (3, 4, 0), (4, 4, 0), (5, 0, 0), (6, 0, 0), (7, 0, 0), (8, 0, 0)])]
def gl_5 : gL := [(3, 5, [(0, 1, 1), (1, 1, 7), (2, 4, 0), (3, 4, 0), (4, 4, 0), (5, 4, 0), (6, 4, 0), (7, 4, 0), (8, 0, 0)]), (3, 0, [(0, 1, 2), (1, 1, 3), (2, 1, 4), (3, 1, 5), (4, 1, 6), (5, 0, 0), (6, 0, 0), (7, 0, 0), (8, 0, 0)]), (0, 4, []), (0, 4, []), (0, 4, []), (0, 4, []), (0, 4, []), (3, 0, [(0, 1, 8), (1, 1, 9), (2, 1, 10), (3, 1, 11), (4, 1, 12), (5, 0, 0), (6, 0, 0), (7, 0, 0), (8, 0, 0)]), (0, 4, []), (0, 4, []), (0, 4, []), (0, 4, []), (0, 4, []), (3, 0, [(0, 1, 14), (1, 1, 15), (2, 1, 16), (3, 1, 17), (4, 1, 18), (5, 0, 0), (6, 0, 0), (7, 0, 0), (8, 0, 0)]), (0, 4, []), (0, 4, []), (0, 4, []), (0, 4, []), (0, 4, [])]
def gl_6 : gL := [(3, 5, [(0, 1, 1), (1, 1, 7), (2, 1, 13), (3, 4, 0), (4, 4, 0), (5, 4, 0), (6, 4, 0), (7, 4, 0), (8, 0, 0)]), (3, 0, [(0, 1, 2), (1, 1, 3), (2, 1, 4), (3, 1, 5), (4, 1, 6), (5, 0, 0), (6, 0, 0), (7, 0, 0), (8, 0, 0)]), (0, 4, []), (0, 4, []), (0, 4, []), (0, 4, []), (0, 4, []), (3, 0, [(0, 1, 8), (1, 1, 9), (2, 1, 10), (3, 1, 11), (4, 1, 12), (5, 0, 0), (6, 0, 0), (7, 0, 0), (8, 0, 0)]), (0, 4, []), (0, 4, []), (0, 4, []), (0, 4, []), (0, 4, []), (3, 0, [(0, 1, 14), (1, 1, 15), (2, 1, 16), (3, 1, 17), (4, 1, 18), (5, 0, 0), (6, 0, 0), (7, 0, 0), (8, 0, 0)]), (0, 4, []), (0, 4, []), (0, 4, []), (0, 4, []), (0, 4, []), (3, 4, [(0, 1, 20), (1, 1, 21), (2, 1, 28), (3, 1, 35), (4, 1, 36), (5, 4, 0), (6, 0, 0), (7, 0, 0)]), (0, 160, []), (2, 6, [(22, 0, 0)]), (0, 160, []), (0, 160, []), (0, 160, []), (0, 160, []), (0, 160, []), (0, 160, []), (2, 6, [(29, 0, 0)]), (0, 4, []), (0, 4, []), (0, 4, []), (0, 4, []), (0, 4, []), (0, 4, []), (0, 6, []), (0, 160, []), (3, 1, [(0, 4, 0), (1, 4, 0), (2, 0, 0), (3, 0, 0), (4, 0, 0), (5, 0, 0), (6, 0, 0), (7, 0, 0), (8, 0, 0)])]
def gl_7 : gL := [(3, 5, [(0, 1, 1), (1, 1, 7), (2, 1, 13), (3, 4, 0), (4, 4, 0), (5, 4, 0), (6, 4, 0), (7, 4, 0), (8, 0, 0)]), (3, 0, [(0, 1, 2), (1, 1, 3), (2, 1, 4), (3, 1, 5), (4, 1, 6), (5, 0, 0), (6, 0, 0), (7, 0, 0), (8, 0, 0)]), (0, 4, []), (0, 4, []), (0, 4, []), (0, 4, []), (0, 4, []), (3, 0, [(0, 1, 8), (1, 1, 9), (2, 1, 10), (3, 1, 11), (4, 1, 12), (5, 0, 0), (6, 0, 0), (7, 0, 0), (8, 0, 0)]), (0, 4, []), (0, 4, []), (0, 4, []), (0, 4, []), (0, 4, []), (3, 0, [(0, 1, 14), (1, 1, 15), (2, 1, 16), (3, 1, 17), (4, 1, 18), (5, 0, 0), (6, 0, 0), (7, 0, 0), (8, 0, 0)]), (0, 4, []), (0, 4, []), (0, 4, []), (0, 4, []), (0, 4, []), (3, 4, [(0, 1, 20), (1, 1, 21), (2, 1, 28), (3, 1, 35), (4, 1, 36), (5, 4, 0), (6, 0, 0), (7, 0, 0)]), (0, 160, []), (2, 6, [(22, 0, 0)]), (0, 160, []), (0, 160, []), (0, 160, []), (0, 160, []), (0, 160, []), (0, 160, []), (2, 6, [(29, 0, 0)]), (0, 4, []), (0, 4, []), (0, 4, []), (0, 4, []), (0, 4, []), (0, 4, []), (0, 6, []), (0, 160, []), (3, 1, [(0, 1, 20), (1, 3, 0), (2, 0, 0), (3, 0, 0), (4, 0, 0), (5, 0, 0), (6, 0, 0), (7, 0, 0), (8, 0, 0)]), (0, 0, [])]
def gl_8 : gL := [(3, 5, [(0, 1, 1), (1, 1, 7), (2, 1, 13), (3, 4, 0), (4, 4, 0), (5, 4, 0), (6, 4, 0), (7, 4, 0), (8, 0, 0)]), (3, 0, [(0, 1, 2), (1, 1, 3), (2, 1, 4), (3, 1, 5), (4, 1, 6), (5, 0, 0), (6, 0, 0), (7, 0, 0), (8, 0, 0)]), (0, 4, []), (0, 4, []), (0, 4, []), (0, 4, []), (0, 4, []), (3, 0, [(0, 1, 8), (1, 1, 9), (2, 1, 10), (3, 1, 11), (4, 1, 12), (5, 0, 0), (6, 0, 0), (7, 0, 0), (8, 0, 0)]), (0, 4, []), (0, 4, []), (0, 4, []), (0, 4, []), (0, 4, []), (3, 0, [(0, 1, 14), (1, 1, 15), (2, 1, 16), (3, 1, 17), (4, 1, 18), (5, 0, 0), (6, 0, 0), (7, 0, 0), (8, 0, 0)]), (0, 4, []), (0, 4, []), (0, 4, []), (0, 4, []), (0, 4, []), (3, 4, [(0, 4, 0), (1, 4, 0), (2, 4, 0), (3, 4, 0), (4, 4, 0), (5, 4, 0), (6, 0, 0), (7, 0, 0)])]
def gl_9 : gL := [(3, 5, [(0, 1, 1), (1, 1, 7), (2, 1, 13), (3, 4, 0), (4, 4, 0), (5, 4, 0), (6, 4, 0), (7, 4, 0), (8, 0, 0)]), (3, 0, [(0, 1, 2), (1, 1, 3), (2, 1, 4), (3, 1, 5), (4, 1, 6), (5, 0, 0), (6, 0, 0), (7, 0, 0), (8, 0, 0)]), (0, 4, []), (0, 4, []), (0, 4, []), (0, 4, []), (0, 4, []), (3, 0, [(0, 1, 8), (1, 1, 9), (2, 1, 10), (3, 1, 11), (4, 1, 12), (5, 0, 0), (6, 0, 0), (7, 0, 0), (8, 0, 0)]), (0, 4, []), (0, 4, []), (0, 4, []), (0, 4, []), (0, 4, []), (3, 0, [(0, 1, 14), (1, 1, 15), (2, 1, 16), (3, 1, 17), (4, 1, 18), (5, 0, 0), (6, 0, 0), (7, 0, 0), (8, 0, 0)]), (0, 4, []), (0, 4, []), (0, 4, []), (0, 4, []), (0, 4, []), (3, 4, [(0, 1, 20), (1, 1, 21), (2, 1, 28), (3, 1, 35), (4, 1, 36), (5, 1, 37), (6, 0, 0), (7, 0, 0)]), (0, 160, []), (2, 6, [(22, 0, 0)]), (0, 160, []), (0, 160, []), (0, 160, []), (0, 160, []), (0, 160, []), (0, 160, []), (2, 6, [(29, 0, 0)]), (0, 4, []), (0, 4, []), (0, 4, []), (0, 4, []), (0, 4, []), (0, 4, []), (0, 6, []), (0, 160, []), (3, 1, [(0, 1, 20), (1, 3, 0), (2, 0, 0), (3, 0, 0), (4, 0, 0), (5, 0, 0), (6, 0, 0), (7, 0, 0), (8, 0, 0)]), (0, 0, [])]
def gl_10 : gL := [(3, 5, [(0, 1, 1), (1, 1, 7), (2, 1, 13), (3, 1, 19), (4, 4, 0), (5, 4, 0), (6, 4, 0), (7, 4, 0), (8, 0, 0)]), (3, 0, [(0, 1, 2), (1, 1, 3), (2, 1, 4), (3, 1, 5), (4, 1, 6), (5, 0, 0), (6, 0, 0), (7, 0, 0), (8, 0, 0)]), (0, 4, []), (0, 4, []), (0, 4, []), (0, 4, []), (0, 4, []), (3, 0, [(0, 1, 8), (1, 1, 9), (2, 1, 10), (3, 1, 11), (4, 1, 12), (5, 0, 0), (6, 0, 0), (7, 0, 0), (8, 0, 0)]), (0, 4, []), (0, 4, []), (0, 4, []), (0, 4, []), (0, 4, []), (3, 0, [(0, 1, 14), (1, 1, 15), (2, 1, 16), (3, 1, 17), (4, 1, 18), (5, 0, 0), (6, 0, 0), (7, 0, 0), (8, 0, 0)]), (0, 4, []), (0, 4, []), (0, 4, []), (0, 4, []), (0, 4, []), (3, 4, [(0, 1, 20), (1, 1, 21), (2, 1, 28), (3, 1, 35), (4, 1, 36), (5, 1, 37), (6, 0, 0), (7, 0, 0)]), (0, 160, []), (2, 6, [(22, 0, 0)]), (0, 160, []), (0, 160, []), (0, 160, []), (0, 160, []), (0, 160, []), (0, 160, []), (2, 6, [(29, 0, 0)]), (0, 4, []), (0, 4, []), (0, 4, []), (0, 4, []), (0, 4, []), (0, 4, []), (0, 6, []), (0, 160, []), (3, 1, [(0, 1, 20), (1, 3, 0), (2, 0, 0), (3, 0, 0), (4, 0, 0), (5, 0, 0), (6, 0, 0), (7, 0, 0), (8, 0, 0)]), (0, 0, []), (3, 3, [(0, 4, 0), (1, 4, 0), (2, 4, 0), (3, 4, 0), (4, 4, 0), (5, 4, 0), (6, 4, 0), (7, 4, 0), (8, 4, 0), (9, 4, 0), (10, 4, 0), (11, 0, 0), (12, 0, 0)])]
def gl_11 : gL := [(3, 5, [(0, 1, 1), (1, 1, 7), (2, 1, 13), (3, 1, 19), (4, 4, 0), (5, 4, 0), (6, 4, 0), (7, 4, 0), (8, 0, 0)]), (3, 0, [(0, 1, 2), (1, 1, 3), (2, 1, 4), (3, 1, 5), (4, 1, 6), (5, 0, 0), (6, 0, 0), (7, 0, 0), (8, 0, 0)]), (0, 4, []), (0, 4, []), (0, 4, []), (0, 4, []), (0, 4, []), (3, 0, [(0, 1, 8), (1, 1, 9), (2, 1, 10), (3, 1, 11), (4, 1, 12), (5, 0, 0), (6, 0, 0), (7, 0, 0), (8, 0, 0)]), (0, 4, []), (0, 4, []), (0, 4, []), (0, 4, []), (0, 4, []), (3, 0, [(0, 1, 14), (1, 1, 15), (2, 1, 16), (3, 1, 17), (4, 1, 18), (5, 0, 0), (6, 0, 0), (7, 0, 0), (8, 0, 0)]), (0, 4, []), (0, 4, []), (0, 4, []), (0, 4, []), (0, 4, []), (3, 4, [(0, 1, 20), (1, 1, 21), (2, 1, 28), (3, 1, 35), (4, 1, 36), (5, 1, 37), (6, 0, 0), (7, 0, 0)]), (0, 160, []), (2, 6, [(22, 0, 0)]), (0, 160, []), (0, 160, []), (0, 160, []), (0, 160, []), (0, 160, []), (0, 160, []), (2, 6, [(29, 0, 0)]), (0, 4, []), (0, 4, []), (0, 4, []), (0, 4, []), (0, 4, []), (0, 4, []), (0, 6, []), (0, 160, []), (3, 1, [(0, 1, 20), (1, 3, 0), (2, 0, 0), (3, 0, 0), (4, 0, 0), (5, 0, 0), (6, 0, 0), (7, 0, 0), (8, 0, 0)]), (0, 0, []), (3, 3, [(0, 1, 1), (1, 1, 19), (2, 1, 40), (3, 1, 41), (4, 1, 42), (5, 1, 43), (6, 1, 44), (7, 1, 45), (8, 1, 46), (9, 1, 47), (10, 1, 48), (11, 0, 0), (12, 0, 0)]), (0, 403, []), (0, 403, []), (0, 403, []), (0, 20, []), (0, 20, []), (0, 40, []), (0, 12, []), (0, 5, []), (0, 4, [])]
def gl_12 : gL := [(3, 5, [(0, 1, 1), (1, 1, 7), (2, 1, 13), (3, 1, 19), (4, 1, 39), (5, 4, 0), (6, 4, 0), (7, 4, 0), (8, 0, 0)]), (3, 0, [(0, 1, 2), (1, 1, 3), (2, 1, 4), (3, 1, 5), (4, 1, 6), (5, 0, 0), (6, 0, 0), (7, 0, 0), (8, 0, 0)]), (0, 4, []), (0, 4, []), (0, 4, []), (0, 4, []), (0, 4, []), (3, 0, [(0, 1, 8), (1, 1, 9), (2, 1, 10), (3, 1, 11), (4, 1, 12), (5, 0, 0), (6, 0, 0), (7, 0, 0), (8, 0, 0)]), (0, 4, []), (0, 4, []), (0, 4, []), (0, 4, []), (0, 4, []), (3, 0, [(0, 1, 14), (1, 1, 15), (2, 1, 16), (3, 1, 17), (4, 1, 18), (5, 0, 0), (6, 0, 0), (7, 0, 0), (8, 0, 0)]), (0, 4, []), (0, 4, []), (0, 4, []), (0, 4, []), (0, 4, []), (3, 4, [(0, 1, 20), (1, 1, 21), (2, 1, 28), (3, 1, 35), (4, 1, 36), (5, 1, 37), (6, 0, 0), (7, 0, 0)]), (0, 160, []), (2, 6, [(22, 0, 0)]), (0, 160, []), (0, 160, []), (0, 160, []), (0, 160, []), (0, 160, []), (0, 160, []), (2, 6, [(29, 0, 0)]), (0, 4, []), (0, 4, []), (0, 4, []), (0, 4, []), (0, 4, []), (0, 4, []), (0, 6, []), (0, 160, []), (3, 1, [(0, 1, 20), (1, 3, 0), (2, 0, 0), (3, 0, 0), (4, 0, 0), (5, 0, 0), (6, 0, 0), (7, 0, 0), (8, 0, 0)]), (0, 0, []), (3, 3, [(0, 1, 1), (1, 1, 19), (2, 1, 40), (3, 1, 41), (4, 1, 42), (5, 1, 43), (6, 1, 44), (7, 1, 45), (8, 1, 46), (9, 1, 47), (10, 1, 48), (11, 0, 0), (12, 0, 0)]), (0, 403, []), (0, 403, []), (0, 403, []), (0, 20, []), (0, 20, []), (0, 40, []), (0, 12, []), (0, 5, []), (0, 4, []), (3, 2, [(0, 4, 0), (1, 4, 0), (2, 4, 0)])]
def gl_13 : gL := [(3, 5, [(0, 1, 1), (1, 1, 7), (2, 1, 13), (3, 1, 19), (4, 1, 39), (5, 4, 0), (6, 4, 0), (7, 4, 0), (8, 0, 0)]), (3, 0, [(0, 1, 2), (1, 1, 3), (2, 1, 4), (3, 1, 5), (4, 1, 6), (5, 0, 0), (6, 0, 0), (7, 0, 0), (8, 0, 0)]), (0, 4, []), (0, 4, []), (0, 4, []), (0, 4, []), (0, 4, []), (3, 0, [(0, 1, 8), (1, 1, 9), (2, 1, 10), (3, 1, 11), (4, 1, 12), (5, 0, 0), (6, 0, 0), (7, 0, 0), (8, 0, 0)]), (0, 4, []), (0, 4, []), (0, 4, []), (0, 4, []), (0, 4, []), (3, 0, [(0, 1, 14), (1, 1, 15), (2, 1, 16), (3, 1, 17), (4, 1, 18), (5, 0, 0), (6, 0, 0), (7, 0, 0), (8, 0, 0)]), (0, 4, []), (0, 4, []), (0, 4, []), (0, 4, []), (0, 4, []), (3, 4, [(0, 1, 20), (1, 1, 21), (2, 1, 28), (3, 1, 35), (4, 1, 36), (5, 1, 37), (6, 0, 0), (7, 0, 0)]), (0, 160, []), (2, 6, [(22, 0, 0)]), (0, 160, []), (0, 160, []), (0, 160, []), (0, 160, []), (0, 160, []), (0, 160, []), (2, 6, [(29, 0, 0)]), (0, 4, []), (0, 4, []), (0, 4, []), (0, 4, []), (0, 4, []), (0, 4, []), (0, 6, []), (0, 160, []), (3, 1, [(0, 1, 20), (1, 3, 0), (2, 0, 0), (3, 0, 0), (4, 0, 0), (5, 0, 0), (6, 0, 0), (7, 0, 0), (8, 0, 0)]), (0, 0, []), (3, 3, [(0, 1, 1), (1, 1, 19), (2, 1, 40), (3, 1, 41), (4, 1, 42), (5, 1, 43), (6, 1, 44), (7, 1, 45), (8, 1, 46), (9, 1, 47), (10, 1, 48), (11, 0, 0), (12, 0, 0)]), (0, 403, []), (0, 403, []), (0, 403, []), (0, 20, []), (0, 20, []), (0, 40, []), (0, 12, []), (0, 5, []), (0, 4, []), (3, 2, [(0, 1, 50), (1, 1, 55), (2, 1, 56)]), (2, 4, [(51, 0, 0)]), (0, 40, []), (0, 40, []), (0, 40, []), (0, 40, []), (0, 4, []), (0, 4, [])]
def gl_14 : gL := [(3, 5, [(0, 4, 0), (1, 4, 0), (2, 4, 0), (3, 4, 0), (4, 4, 0), (5, 4, 0), (6, 4, 0), (7, 4, 0), (8, 0, 0)])]
def gl_15 : gL := [(3, 5, [(0, 1, 1), (1, 1, 7), (2, 1, 13), (3, 1, 19), (4, 1, 39), (5, 1, 49), (6, 1, 57), (7, 1, 58), (8, 0, 0)]), (3, 0, [(0, 1, 2), (1, 1, 3), (2, 1, 4), (3, 1, 5), (4, 1, 6), (5, 0, 0), (6, 0, 0), (7, 0, 0), (8, 0, 0)]), (0, 4, []), (0, 4, []), (0, 4, []), (0, 4, []), (0, 4, []), (3, 0, [(0, 1, 8), (1, 1, 9), (2, 1, 10), (3, 1, 11), (4, 1, 12), (5, 0, 0), (6, 0, 0), (7, 0, 0), (8, 0, 0)]), (0, 4, []), (0, 4, []), (0, 4, []), (0, 4, []), (0, 4, []), (3, 0, [(0, 1, 14), (1, 1, 15), (2, 1, 16), (3, 1, 17), (4, 1, 18), (5, 0, 0), (6, 0, 0), (7, 0, 0), (8, 0, 0)]), (0, 4, []), (0, 4, []), (0, 4, []), (0, 4, []), (0, 4, []), (3, 4, [(0, 1, 20), (1, 1, 21), (2, 1, 28), (3, 1, 35), (4, 1, 36), (5, 1, 37), (6, 0, 0), (7, 0, 0)]), (0, 160, []), (2, 6, [(22, 0, 0)]), (0, 160, []), (0, 160, []), (0, 160, []), (0, 160, []), (0, 160, []), (0, 160, []), (2, 6, [(29, 0, 0)]), (0, 4, []), (0, 4, []), (0, 4, []), (0, 4, []), (0, 4, []), (0, 4, []), (0, 6, []), (0, 160, []), (3, 1, [(0, 1, 20), (1, 3, 0), (2, 0, 0), (3, 0, 0), (4, 0, 0), (5, 0, 0), (6, 0, 0), (7, 0, 0), (8, 0, 0)]), (0, 0, []), (3, 3, [(0, 1, 1), (1, 1, 19), (2, 1, 40), (3, 1, 41), (4, 1, 42), (5, 1, 43), (6, 1, 44), (7, 1, 45), (8, 1, 46), (9, 1, 47), (10, 1, 48), (11, 0, 0), (12, 0, 0)]), (0, 403, []), (0, 403, []), (0, 403, []), (0, 20, []), (0, 20, []), (0, 40, []), (0, 12, []), (0, 5, []), (0, 4, []), (3, 2, [(0, 1, 50), (1, 1, 55), (2, 1, 56)]), (2, 4, [(51, 0, 0)]), (0, 40, []), (0, 40, []), (0, 40, []), (0, 40, []), (0, 4, []), (0, 4, []), (0, 13, []), (0, 13, [])]
def gl_16 : gL := [(3, 5, [(0, 1, 1), (1, 1, 7), (2, 1, 13), (3, 1, 19), (4, 1, 39), (5, 1, 49), (6, 1, 57), (7, 1, 58), (8, 0, 0)]), (3, 0, [(0, 1, 2), (1, 1, 3), (2, 1, 4), (3, 1, 5), (4, 1, 6), (5, 0, 0), (6, 0, 0), (7, 0, 0), (8, 0, 0)]), (0, 4, []), (0, 4, []), (0, 4, []), (0, 4, []), (0, 4, []), (3, 0, [(0, 1, 8), (1, 1, 9), (2, 1, 10), (3, 1, 11), (4, 1, 12), (5, 0, 0), (6, 0, 0), (7, 0, 0), (8, 0, 0)]), (0, 4, []), (0, 4, []), (0, 4, []), (0, 4, []), (0, 4, []), (3, 0, [(0, 1, 14), (1, 1, 15), (2, 1, 16), (3, 1, 17), (4, 1, 18), (5, 0, 0), (6, 0, 0), (7, 0, 0), (8, 0, 0)]), (0, 4, []), (0, 4, []), (0, 4, []), (0, 4, []), (0, 4, []), (3, 4, [(0, 1, 20), (1, 1, 21), (2, 1, 28), (3, 1, 35), (4, 1, 36), (5, 1, 37), (6, 0, 0), (7, 0, 0)]), (0, 160, []), (2, 6, [(22, 0, 0)]), (0, 160, []), (0, 160, []), (0, 160, []), (0, 160, []), (0, 160, []), (0, 160, []), (2, 6, [(29, 0, 0)]), (0, 4, []), (0, 4, []), (0, 4, []), (0, 4, []), (0, 4, []), (0, 4, []), (0, 6, []), (0, 160, []), (3, 1, [(0, 1, 20), (1, 3, 0), (2, 0, 0), (3, 0, 0), (4, 0, 0), (5, 0, 0), (6, 0, 0), (7, 0, 0), (8, 0, 0)]), (0, 0, []), (3, 3, [(0, 1, 1), (1, 1, 19), (2, 1, 40), (3, 1, 41), (4, 1, 42), (5, 1, 43), (6, 1, 44), (7, 1, 45), (8, 1, 46), (9, 1, 47), (10, 1, 48), (11, 0, 0), (12, 0, 0)]), (0, 403, []), (0, 403, []), (0, 403, []), (0, 20, []), (0, 20, []), (0, 40, []), (0, 12, []), (0, 5, []), (0, 4, []), (3, 2, [(0, 1, 50), (1, 1, 55), (2, 1, 56)]), (2, 4, [(51, 0, 0)]), (0, 40, []), (0, 40, []), (0, 40, []), (0, 40, []), (0, 4, []), (0, 4, []), (0, 13, []), (0, 13, []), (3, 6, [(0, 0, 0), (1, 4, 0), (2, 4, 0), (3, 0, 0), (4, 0, 0), (5, 4, 0), (6, 0, 0), (7, 4, 0), (8, 4, 0), (9, 4, 0), (10, 4, 0), (11, 4, 0), (12, 0, 0), (13, 0, 0), (14, 0, 0), (15, 0, 0), (16, 0, 0), (17, 0, 0), (18, 0, 0), (19, 0, 0), (20, 0, 0), (21, 0, 0), (22, 0, 0), (23, 0, 0), (24, 0, 0), (25, 0, 0), (26, 2, 0), (27, 0, 0), (28, 0, 0), (29, 0, 0), (30, 4, 0), (31, 4, 0), (32, 4, 0), (33, 4, 0), (34, 4, 0), (35, 0, 0), (36, 0, 0), (37, 0, 0), (38, 4, 0), (39, 4, 0), (40, 4, 0), (41, 4, 0), (42, 0, 0), (43, 0, 0), (44, 0, 0), (45, 4, 0), (46, 4, 0), (47, 4, 0), (48, 4, 0), (49, 4, 0), (50, 4, 0), (51, 0, 0), (52, 4, 0), (53, 0, 0), (54, 0, 0), (55, 0, 0), (56, 0, 0), (57, 4, 0), (58, 4, 0), (59, 4, 0), (60, 4, 0)])]
set_option maxRecDepth 20000 in
set_option maxHeartbeats 4000000 in
theorem k_X0_1 {X : fX} {bs d : Nat} (hx : ∀ c, xa X c = bs + c) : gC X bs (d + 1) mX0_init [.ref (xa X 1)] gl_0 zM (gQ X bs gl_1 zM) 5 20 := by
  refine gC.of (L := [_]) hx (by decide +kernel) rfl (Nat.le_of_ble_eq_true rfl) (fun Z hZ hR => ?_)
  refine g_aload_n hZ dX0_init_0 rfl ?_
  refine g_obj hZ dX0_init_1 (tb_in 94 (by decide +kernel) (by decide +kernel)) (Nat.le_of_ble_eq_true rfl) ?_
  refine g_aload_n hZ dX0_init_4 rfl ?_
  refine g_iconst hZ dX0_init_5 ?_
  refine g_newI (N := 4) (z := 2) hZ rfl dX0_init_6 (Nat.le_of_ble_eq_true rfl) (Nat.le_of_ble_eq_true rfl) (Nat.le_of_ble_eq_true rfl) (by decide +kernel) (fun i => by simp [mY, mW, mV, mU, mT, zM, up]) ?_
  refine g_putF (c := 1) (ci := 0) (kf := 0) (t := 2) (fs := [(0, 4, 0), (1, 4, 0), (2, 4, 0), (3, 4, 0), (4, 4, 0), (5, 0, 0), (6, 0, 0), (7, 0, 0), (8, 0, 0)]) hZ tyX0 tyX0_ok nmX0 dX0_init_8 rfl (by decide) iw_X0 wf_X0_9 rfl rfl hR.2.2.2 rfl ⟨rfl, rfl⟩ (by decide +kernel) (Nat.le_of_ble_eq_true rfl) ?_
  refine g_aload_n hZ dX0_init_11 rfl ?_
  refine g_iconst hZ dX0_init_12 ?_
  refine g_newI (N := 4) (z := 3) hZ rfl dX0_init_13 (Nat.le_of_ble_eq_true rfl) (Nat.le_of_ble_eq_true rfl) (Nat.le_of_ble_eq_true rfl) (by decide +kernel) (fun i => by simp [mY, mW, mV, mU, mT, zM, up]) ?_
  refine g_putF (c := 1) (ci := 0) (kf := 1) (t := 3) (fs := [(0, 1, 2), (1, 4, 0), (2, 4, 0), (3, 4, 0), (4, 4, 0), (5, 0, 0), (6, 0, 0), (7, 0, 0), (8, 0, 0)]) hZ tyX0 tyX0_ok nmX0 dX0_init_15 rfl (by decide) iw_X0 wf_X0_15 rfl rfl hR.2.2.2 rfl ⟨rfl, rfl⟩ (by decide +kernel) (Nat.le_of_ble_eq_true rfl) ?_
  refine g_aload_n hZ dX0_init_18 rfl ?_
  refine g_iconst hZ dX0_init_19 ?_
  refine g_newI (N := 4) (z := 4) hZ rfl dX0_init_20 (Nat.le_of_ble_eq_true rfl) (Nat.le_of_ble_eq_true rfl) (Nat.le_of_ble_eq_true rfl) (by decide +kernel) (fun i => by simp [mY, mW, mV, mU, mT, zM, up]) ?_
  refine g_putF (c := 1) (ci := 0) (kf := 2) (t := 4) (fs := [(0, 1, 2), (1, 1, 3), (2, 4, 0), (3, 4, 0), (4, 4, 0), (5, 0, 0), (6, 0, 0), (7, 0, 0), (8, 0, 0)]) hZ tyX0 tyX0_ok nmX0 dX0_init_22 rfl (by decide) iw_X0 wf_X0_18 rfl rfl hR.2.2.2 rfl ⟨rfl, rfl⟩ (by decide +kernel) (Nat.le_of_ble_eq_true rfl) ?_
  refine g_aload_n hZ dX0_init_25 rfl ?_
  refine g_iconst hZ dX0_init_26 ?_
  refine g_newI (N := 4) (z := 5) hZ rfl dX0_init_27 (Nat.le_of_ble_eq_true rfl) (Nat.le_of_ble_eq_true rfl) (Nat.le_of_ble_eq_true rfl) (by decide +kernel) (fun i => by simp [mY, mW, mV, mU, mT, zM, up]) ?_
  refine g_putF (c := 1) (ci := 0) (kf := 3) (t := 5) (fs := [(0, 1, 2), (1, 1, 3), (2, 1, 4), (3, 4, 0), (4, 4, 0), (5, 0, 0), (6, 0, 0), (7, 0, 0), (8, 0, 0)]) hZ tyX0 tyX0_ok nmX0 dX0_init_29 rfl (by decide) iw_X0 wf_X0_21 rfl rfl hR.2.2.2 rfl ⟨rfl, rfl⟩ (by decide +kernel) (Nat.le_of_ble_eq_true rfl) ?_
  refine g_aload_n hZ dX0_init_32 rfl ?_
  refine g_iconst hZ dX0_init_33 ?_
  refine g_newI (N := 4) (z := 6) hZ rfl dX0_init_34 (Nat.le_of_ble_eq_true rfl) (Nat.le_of_ble_eq_true rfl) (Nat.le_of_ble_eq_true rfl) (by decide +kernel) (fun i => by simp [mY, mW, mV, mU, mT, zM, up]) ?_
  refine g_putF (c := 1) (ci := 0) (kf := 4) (t := 6) (fs := [(0, 1, 2), (1, 1, 3), (2, 1, 4), (3, 1, 5), (4, 4, 0), (5, 0, 0), (6, 0, 0), (7, 0, 0), (8, 0, 0)]) hZ tyX0 tyX0_ok nmX0 dX0_init_36 rfl (by decide) iw_X0 wf_X0_24 rfl rfl hR.2.2.2 rfl ⟨rfl, rfl⟩ (by decide +kernel) (Nat.le_of_ble_eq_true rfl) ?_
  refine g_aload_n hZ dX0_init_39 rfl ?_
  refine g_iconst hZ dX0_init_40 ?_
  refine g_put (c := 1) (ci := 0) (kf := 5) (kd := 0) (v := 0) (M' := zM) (fs := [(0, 1, 2), (1, 1, 3), (2, 1, 4), (3, 1, 5), (4, 1, 6), (5, 0, 0), (6, 0, 0), (7, 0, 0), (8, 0, 0)]) (fs' := [(0, 1, 2), (1, 1, 3), (2, 1, 4), (3, 1, 5), (4, 1, 6), (5, 0, 0), (6, 0, 0), (7, 0, 0), (8, 0, 0)]) hZ tyX0 tyX0_ok nmX0 dX0_init_41 rfl (by decide) iw_X0 wf_X0_27 rfl ⟨by decide, by decide⟩ (by decide +kernel) (Nat.le_of_ble_eq_true rfl) (by decide +kernel) (by decide +kernel) (by decide +kernel) rfl (by decide) (up_z (by decide +kernel)) ?_
  refine g_aload_n hZ dX0_init_44 rfl ?_
  refine g_iconst hZ dX0_init_45 ?_
  refine g_put (c := 1) (ci := 0) (kf := 6) (kd := 0) (v := 0) (M' := zM) (fs := [(0, 1, 2), (1, 1, 3), (2, 1, 4), (3, 1, 5), (4, 1, 6), (5, 0, 0), (6, 0, 0), (7, 0, 0), (8, 0, 0)]) (fs' := [(0, 1, 2), (1, 1, 3), (2, 1, 4), (3, 1, 5), (4, 1, 6), (5, 0, 0), (6, 0, 0), (7, 0, 0), (8, 0, 0)]) hZ tyX0 tyX0_ok nmX0 dX0_init_46 rfl (by decide) iw_X0 wf_X0_31 rfl ⟨by decide, by decide⟩ (by decide +kernel) (Nat.le_of_ble_eq_true rfl) (by decide +kernel) (by decide +kernel) (by decide +kernel) rfl (by decide) (up_z (by decide +kernel)) ?_
  refine g_aload_n hZ dX0_init_49 rfl ?_
  refine g_iconst hZ dX0_init_50 ?_
  refine g_put (c := 1) (ci := 0) (kf := 7) (kd := 0) (v := 0) (M' := zM) (fs := [(0, 1, 2), (1, 1, 3), (2, 1, 4), (3, 1, 5), (4, 1, 6), (5, 0, 0), (6, 0, 0), (7, 0, 0), (8, 0, 0)]) (fs' := [(0, 1, 2), (1, 1, 3), (2, 1, 4), (3, 1, 5), (4, 1, 6), (5, 0, 0), (6, 0, 0), (7, 0, 0), (8, 0, 0)]) hZ tyX0 tyX0_ok nmX0 dX0_init_51 rfl (by decide) iw_X0 wf_X0_34 rfl ⟨by decide, by decide⟩ (by decide +kernel) (Nat.le_of_ble_eq_true rfl) (by decide +kernel) (by decide +kernel) (by decide +kernel) rfl (by decide) (up_z (by decide +kernel)) ?_
  refine g_aload_n hZ dX0_init_54 rfl ?_
  refine g_iconst hZ dX0_init_55 ?_
  refine g_put (c := 1) (ci := 0) (kf := 8) (kd := 0) (v := 0) (M' := zM) (fs := [(0, 1, 2), (1, 1, 3), (2, 1, 4), (3, 1, 5), (4, 1, 6), (5, 0, 0), (6, 0, 0), (7, 0, 0), (8, 0, 0)]) (fs' := [(0, 1, 2), (1, 1, 3), (2, 1, 4), (3, 1, 5), (4, 1, 6), (5, 0, 0), (6, 0, 0), (7, 0, 0), (8, 0, 0)]) hZ tyX0 tyX0_ok nmX0 dX0_init_56 rfl (by decide) iw_X0 wf_X0_37 rfl ⟨by decide, by decide⟩ (by decide +kernel) (Nat.le_of_ble_eq_true rfl) (by decide +kernel) (by decide +kernel) (by decide +kernel) rfl (by decide) (up_z (by decide +kernel)) ?_
  exact g_ret hZ hR dX0_init_59 rfl (Nat.le_of_ble_eq_true rfl) (Nat.le_of_ble_eq_true rfl) (by decide +kernel) rfl

set_option maxRecDepth 20000 in
set_option maxHeartbeats 4000000 in
theorem k_X0_2 {X : fX} {bs d : Nat} (hx : ∀ c, xa X c = bs + c) : gC X bs (d + 1) mX0_init [.ref (xa X 7)] gl_2 zM (gQ X bs gl_3 zM) 5 20 := by
  refine gC.of (L := [_]) hx (by decide +kernel) rfl (Nat.le_of_ble_eq_true rfl) (fun Z hZ hR => ?_)
  refine g_aload_n hZ dX0_init_0 rfl ?_
  refine g_obj hZ dX0_init_1 (tb_in 94 (by decide +kernel) (by decide +kernel)) (Nat.le_of_ble_eq_true rfl) ?_
  refine g_aload_n hZ dX0_init_4 rfl ?_
  refine g_iconst hZ dX0_init_5 ?_
  refine g_newI (N := 4) (z := 8) hZ rfl dX0_init_6 (Nat.le_of_ble_eq_true rfl) (Nat.le_of_ble_eq_true rfl) (Nat.le_of_ble_eq_true rfl) (by decide +kernel) (fun i => by simp [mY, mW, mV, mU, mT, zM, up]) ?_
  refine g_putF (c := 7) (ci := 0) (kf := 0) (t := 8) (fs := [(0, 4, 0), (1, 4, 0), (2, 4, 0), (3, 4, 0), (4, 4, 0), (5, 0, 0), (6, 0, 0), (7, 0, 0), (8, 0, 0)]) hZ tyX0 tyX0_ok nmX0 dX0_init_8 rfl (by decide) iw_X0 wf_X0_9 rfl rfl hR.2.2.2 rfl ⟨rfl, rfl⟩ (by decide +kernel) (Nat.le_of_ble_eq_true rfl) ?_
  refine g_aload_n hZ dX0_init_11 rfl ?_
  refine g_iconst hZ dX0_init_12 ?_
  refine g_newI (N := 4) (z := 9) hZ rfl dX0_init_13 (Nat.le_of_ble_eq_true rfl) (Nat.le_of_ble_eq_true rfl) (Nat.le_of_ble_eq_true rfl) (by decide +kernel) (fun i => by simp [mY, mW, mV, mU, mT, zM, up]) ?_
  refine g_putF (c := 7) (ci := 0) (kf := 1) (t := 9) (fs := [(0, 1, 8), (1, 4, 0), (2, 4, 0), (3, 4, 0), (4, 4, 0), (5, 0, 0), (6, 0, 0), (7, 0, 0), (8, 0, 0)]) hZ tyX0 tyX0_ok nmX0 dX0_init_15 rfl (by decide) iw_X0 wf_X0_15 rfl rfl hR.2.2.2 rfl ⟨rfl, rfl⟩ (by decide +kernel) (Nat.le_of_ble_eq_true rfl) ?_
  refine g_aload_n hZ dX0_init_18 rfl ?_
  refine g_iconst hZ dX0_init_19 ?_
  refine g_newI (N := 4) (z := 10) hZ rfl dX0_init_20 (Nat.le_of_ble_eq_true rfl) (Nat.le_of_ble_eq_true rfl) (Nat.le_of_ble_eq_true rfl) (by decide +kernel) (fun i => by simp [mY, mW, mV, mU, mT, zM, up]) ?_
  refine g_putF (c := 7) (ci := 0) (kf := 2) (t := 10) (fs := [(0, 1, 8), (1, 1, 9), (2, 4, 0), (3, 4, 0), (4, 4, 0), (5, 0, 0), (6, 0, 0), (7, 0, 0), (8, 0, 0)]) hZ tyX0 tyX0_ok nmX0 dX0_init_22 rfl (by decide) iw_X0 wf_X0_18 rfl rfl hR.2.2.2 rfl ⟨rfl, rfl⟩ (by decide +kernel) (Nat.le_of_ble_eq_true rfl) ?_
  refine g_aload_n hZ dX0_init_25 rfl ?_
  refine g_iconst hZ dX0_init_26 ?_
  refine g_newI (N := 4) (z := 11) hZ rfl dX0_init_27 (Nat.le_of_ble_eq_true rfl) (Nat.le_of_ble_eq_true rfl) (Nat.le_of_ble_eq_true rfl) (by decide +kernel) (fun i => by simp [mY, mW, mV, mU, mT, zM, up]) ?_
  refine g_putF (c := 7) (ci := 0) (kf := 3) (t := 11) (fs := [(0, 1, 8), (1, 1, 9), (2, 1, 10), (3, 4, 0), (4, 4, 0), (5, 0, 0), (6, 0, 0), (7, 0, 0), (8, 0, 0)]) hZ tyX0 tyX0_ok nmX0 dX0_init_29 rfl (by decide) iw_X0 wf_X0_21 rfl rfl hR.2.2.2 rfl ⟨rfl, rfl⟩ (by decide +kernel) (Nat.le_of_ble_eq_true rfl) ?_
  refine g_aload_n hZ dX0_init_32 rfl ?_
  refine g_iconst hZ dX0_init_33 ?_
  refine g_newI (N := 4) (z := 12) hZ rfl dX0_init_34 (Nat.le_of_ble_eq_true rfl) (Nat.le_of_ble_eq_true rfl) (Nat.le_of_ble_eq_true rfl) (by decide +kernel) (fun i => by simp [mY, mW, mV, mU, mT, zM, up]) ?_
  refine g_putF (c := 7) (ci := 0) (kf := 4) (t := 12) (fs := [(0, 1, 8), (1, 1, 9), (2, 1, 10), (3, 1, 11), (4, 4, 0), (5, 0, 0), (6, 0, 0), (7, 0, 0), (8, 0, 0)]) hZ tyX0 tyX0_ok nmX0 dX0_init_36 rfl (by decide) iw_X0 wf_X0_24 rfl rfl hR.2.2.2 rfl ⟨rfl, rfl⟩ (by decide +kernel) (Nat.le_of_ble_eq_true rfl) ?_
  refine g_aload_n hZ dX0_init_39 rfl ?_
  refine g_iconst hZ dX0_init_40 ?_
  refine g_put (c := 7) (ci := 0) (kf := 5) (kd := 0) (v := 0) (M' := zM) (fs := [(0, 1, 8), (1, 1, 9), (2, 1, 10), (3, 1, 11), (4, 1, 12), (5, 0, 0), (6, 0, 0), (7, 0, 0), (8, 0, 0)]) (fs' := [(0, 1, 8), (1, 1, 9), (2, 1, 10), (3, 1, 11), (4, 1, 12), (5, 0, 0), (6, 0, 0), (7, 0, 0), (8, 0, 0)]) hZ tyX0 tyX0_ok nmX0 dX0_init_41 rfl (by decide) iw_X0 wf_X0_27 rfl ⟨by decide, by decide⟩ (by decide +kernel) (Nat.le_of_ble_eq_true rfl) (by decide +kernel) (by decide +kernel) (by decide +kernel) rfl (by decide) (up_z (by decide +kernel)) ?_
  refine g_aload_n hZ dX0_init_44 rfl ?_
  refine g_iconst hZ dX0_init_45 ?_
  refine g_put (c := 7) (ci := 0) (kf := 6) (kd := 0) (v := 0) (M' := zM) (fs := [(0, 1, 8), (1, 1, 9), (2, 1, 10), (3, 1, 11), (4, 1, 12), (5, 0, 0), (6, 0, 0), (7, 0, 0), (8, 0, 0)]) (fs' := [(0, 1, 8), (1, 1, 9), (2, 1, 10), (3, 1, 11), (4, 1, 12), (5, 0, 0), (6, 0, 0), (7, 0, 0), (8, 0, 0)]) hZ tyX0 tyX0_ok nmX0 dX0_init_46 rfl (by decide) iw_X0 wf_X0_31 rfl ⟨by decide, by decide⟩ (by decide +kernel) (Nat.le_of_ble_eq_true rfl) (by decide +kernel) (by decide +kernel) (by decide +kernel) rfl (by decide) (up_z (by decide +kernel)) ?_
  refine g_aload_n hZ dX0_init_49 rfl ?_
  refine g_iconst hZ dX0_init_50 ?_
  refine g_put (c := 7) (ci := 0) (kf := 7) (kd := 0) (v := 0) (M' := zM) (fs := [(0, 1, 8), (1, 1, 9), (2, 1, 10), (3, 1, 11), (4, 1, 12), (5, 0, 0), (6, 0, 0), (7, 0, 0), (8, 0, 0)]) (fs' := [(0, 1, 8), (1, 1, 9), (2, 1, 10), (3, 1, 11), (4, 1, 12), (5, 0, 0), (6, 0, 0), (7, 0, 0), (8, 0, 0)]) hZ tyX0 tyX0_ok nmX0 dX0_init_51 rfl (by decide) iw_X0 wf_X0_34 rfl ⟨by decide, by decide⟩ (by decide +kernel) (Nat.le_of_ble_eq_true rfl) (by decide +kernel) (by decide +kernel) (by decide +kernel) rfl (by decide) (up_z (by decide +kernel)) ?_
  refine g_aload_n hZ dX0_init_54 rfl ?_
  refine g_iconst hZ dX0_init_55 ?_
  refine g_put (c := 7) (ci := 0) (kf := 8) (kd := 0) (v := 0) (M' := zM) (fs := [(0, 1, 8), (1, 1, 9), (2, 1, 10), (3, 1, 11), (4, 1, 12), (5, 0, 0), (6, 0, 0), (7, 0, 0), (8, 0, 0)]) (fs' := [(0, 1, 8), (1, 1, 9), (2, 1, 10), (3, 1, 11), (4, 1, 12), (5, 0, 0), (6, 0, 0), (7, 0, 0), (8, 0, 0)]) hZ tyX0 tyX0_ok nmX0 dX0_init_56 rfl (by decide) iw_X0 wf_X0_37 rfl ⟨by decide, by decide⟩ (by decide +kernel) (Nat.le_of_ble_eq_true rfl) (by decide +kernel) (by decide +kernel) (by decide +kernel) rfl (by decide) (up_z (by decide +kernel)) ?_
  exact g_ret hZ hR dX0_init_59 rfl (Nat.le_of_ble_eq_true rfl) (Nat.le_of_ble_eq_true rfl) (by decide +kernel) rfl

set_option maxRecDepth 20000 in
set_option maxHeartbeats 4000000 in
theorem k_X0_3 {X : fX} {bs d : Nat} (hx : ∀ c, xa X c = bs + c) : gC X bs (d + 1) mX0_init [.ref (xa X 13)] gl_4 zM (gQ X bs gl_5 zM) 5 20 := by
  refine gC.of (L := [_]) hx (by decide +kernel) rfl (Nat.le_of_ble_eq_true rfl) (fun Z hZ hR => ?_)
  refine g_aload_n hZ dX0_init_0 rfl ?_
  refine g_obj hZ dX0_init_1 (tb_in 94 (by decide +kernel) (by decide +kernel)) (Nat.le_of_ble_eq_true rfl) ?_
  refine g_aload_n hZ dX0_init_4 rfl ?_
  refine g_iconst hZ dX0_init_5 ?_
  refine g_newI (N := 4) (z := 14) hZ rfl dX0_init_6 (Nat.le_of_ble_eq_true rfl) (Nat.le_of_ble_eq_true rfl) (Nat.le_of_ble_eq_true rfl) (by decide +kernel) (fun i => by simp [mY, mW, mV, mU, mT, zM, up]) ?_
  refine g_putF (c := 13) (ci := 0) (kf := 0) (t := 14) (fs := [(0, 4, 0), (1, 4, 0), (2, 4, 0), (3, 4, 0), (4, 4, 0), (5, 0, 0), (6, 0, 0), (7, 0, 0), (8, 0, 0)]) hZ tyX0 tyX0_ok nmX0 dX0_init_8 rfl (by decide) iw_X0 wf_X0_9 rfl rfl hR.2.2.2 rfl ⟨rfl, rfl⟩ (by decide +kernel) (Nat.le_of_ble_eq_true rfl) ?_
  refine g_aload_n hZ dX0_init_11 rfl ?_
  refine g_iconst hZ dX0_init_12 ?_
  refine g_newI (N := 4) (z := 15) hZ rfl dX0_init_13 (Nat.le_of_ble_eq_true rfl) (Nat.le_of_ble_eq_true rfl) (Nat.le_of_ble_eq_true rfl) (by decide +kernel) (fun i => by simp [mY, mW, mV, mU, mT, zM, up]) ?_
  refine g_putF (c := 13) (ci := 0) (kf := 1) (t := 15) (fs := [(0, 1, 14), (1, 4, 0), (2, 4, 0), (3, 4, 0), (4, 4, 0), (5, 0, 0), (6, 0, 0), (7, 0, 0), (8, 0, 0)]) hZ tyX0 tyX0_ok nmX0 dX0_init_15 rfl (by decide) iw_X0 wf_X0_15 rfl rfl hR.2.2.2 rfl ⟨rfl, rfl⟩ (by decide +kernel) (Nat.le_of_ble_eq_true rfl) ?_
  refine g_aload_n hZ dX0_init_18 rfl ?_
  refine g_iconst hZ dX0_init_19 ?_
  refine g_newI (N := 4) (z := 16) hZ rfl dX0_init_20 (Nat.le_of_ble_eq_true rfl) (Nat.le_of_ble_eq_true rfl) (Nat.le_of_ble_eq_true rfl) (by decide +kernel) (fun i => by simp [mY, mW, mV, mU, mT, zM, up]) ?_
  refine g_putF (c := 13) (ci := 0) (kf := 2) (t := 16) (fs := [(0, 1, 14), (1, 1, 15), (2, 4, 0), (3, 4, 0), (4, 4, 0), (5, 0, 0), (6, 0, 0), (7, 0, 0), (8, 0, 0)]) hZ tyX0 tyX0_ok nmX0 dX0_init_22 rfl (by decide) iw_X0 wf_X0_18 rfl rfl hR.2.2.2 rfl ⟨rfl, rfl⟩ (by decide +kernel) (Nat.le_of_ble_eq_true rfl) ?_
  refine g_aload_n hZ dX0_init_25 rfl ?_
  refine g_iconst hZ dX0_init_26 ?_
  refine g_newI (N := 4) (z := 17) hZ rfl dX0_init_27 (Nat.le_of_ble_eq_true rfl) (Nat.le_of_ble_eq_true rfl) (Nat.le_of_ble_eq_true rfl) (by decide +kernel) (fun i => by simp [mY, mW, mV, mU, mT, zM, up]) ?_
  refine g_putF (c := 13) (ci := 0) (kf := 3) (t := 17) (fs := [(0, 1, 14), (1, 1, 15), (2, 1, 16), (3, 4, 0), (4, 4, 0), (5, 0, 0), (6, 0, 0), (7, 0, 0), (8, 0, 0)]) hZ tyX0 tyX0_ok nmX0 dX0_init_29 rfl (by decide) iw_X0 wf_X0_21 rfl rfl hR.2.2.2 rfl ⟨rfl, rfl⟩ (by decide +kernel) (Nat.le_of_ble_eq_true rfl) ?_
  refine g_aload_n hZ dX0_init_32 rfl ?_
  refine g_iconst hZ dX0_init_33 ?_
  refine g_newI (N := 4) (z := 18) hZ rfl dX0_init_34 (Nat.le_of_ble_eq_true rfl) (Nat.le_of_ble_eq_true rfl) (Nat.le_of_ble_eq_true rfl) (by decide +kernel) (fun i => by simp [mY, mW, mV, mU, mT, zM, up]) ?_
  refine g_putF (c := 13) (ci := 0) (kf := 4) (t := 18) (fs := [(0, 1, 14), (1, 1, 15), (2, 1, 16), (3, 1, 17), (4, 4, 0), (5, 0, 0), (6, 0, 0), (7, 0, 0), (8, 0, 0)]) hZ tyX0 tyX0_ok nmX0 dX0_init_36 rfl (by decide) iw_X0 wf_X0_24 rfl rfl hR.2.2.2 rfl ⟨rfl, rfl⟩ (by decide +kernel) (Nat.le_of_ble_eq_true rfl) ?_
  refine g_aload_n hZ dX0_init_39 rfl ?_
  refine g_iconst hZ dX0_init_40 ?_
  refine g_put (c := 13) (ci := 0) (kf := 5) (kd := 0) (v := 0) (M' := zM) (fs := [(0, 1, 14), (1, 1, 15), (2, 1, 16), (3, 1, 17), (4, 1, 18), (5, 0, 0), (6, 0, 0), (7, 0, 0), (8, 0, 0)]) (fs' := [(0, 1, 14), (1, 1, 15), (2, 1, 16), (3, 1, 17), (4, 1, 18), (5, 0, 0), (6, 0, 0), (7, 0, 0), (8, 0, 0)]) hZ tyX0 tyX0_ok nmX0 dX0_init_41 rfl (by decide) iw_X0 wf_X0_27 rfl ⟨by decide, by decide⟩ (by decide +kernel) (Nat.le_of_ble_eq_true rfl) (by decide +kernel) (by decide +kernel) (by decide +kernel) rfl (by decide) (up_z (by decide +kernel)) ?_
  refine g_aload_n hZ dX0_init_44 rfl ?_
  refine g_iconst hZ dX0_init_45 ?_
  refine g_put (c := 13) (ci := 0) (kf := 6) (kd := 0) (v := 0) (M' := zM) (fs := [(0, 1, 14), (1, 1, 15), (2, 1, 16), (3, 1, 17), (4, 1, 18), (5, 0, 0), (6, 0, 0), (7, 0, 0), (8, 0, 0)]) (fs' := [(0, 1, 14), (1, 1, 15), (2, 1, 16), (3, 1, 17), (4, 1, 18), (5, 0, 0), (6, 0, 0), (7, 0, 0), (8, 0, 0)]) hZ tyX0 tyX0_ok nmX0 dX0_init_46 rfl (by decide) iw_X0 wf_X0_31 rfl ⟨by decide, by decide⟩ (by decide +kernel) (Nat.le_of_ble_eq_true rfl) (by decide +kernel) (by decide +kernel) (by decide +kernel) rfl (by decide) (up_z (by decide +kernel)) ?_
  refine g_aload_n hZ dX0_init_49 rfl ?_
  refine g_iconst hZ dX0_init_50 ?_
  refine g_put (c := 13) (ci := 0) (kf := 7) (kd := 0) (v := 0) (M' := zM) (fs := [(0, 1, 14), (1, 1, 15), (2, 1, 16), (3, 1, 17), (4, 1, 18), (5, 0, 0), (6, 0, 0), (7, 0, 0), (8, 0, 0)]) (fs' := [(0, 1, 14), (1, 1, 15), (2, 1, 16), (3, 1, 17), (4, 1, 18), (5, 0, 0), (6, 0, 0), (7, 0, 0), (8, 0, 0)]) hZ tyX0 tyX0_ok nmX0 dX0_init_51 rfl (by decide) iw_X0 wf_X0_34 rfl ⟨by decide, by decide⟩ (by decide +kernel) (Nat.le_of_ble_eq_true rfl) (by decide +kernel) (by decide +kernel) (by decide +kernel) rfl (by decide) (up_z (by decide +kernel)) ?_
  refine g_aload_n hZ dX0_init_54 rfl ?_
  refine g_iconst hZ dX0_init_55 ?_
  refine g_put (c := 13) (ci := 0) (kf := 8) (kd := 0) (v := 0) (M' := zM) (fs := [(0, 1, 14), (1, 1, 15), (2, 1, 16), (3, 1, 17), (4, 1, 18), (5, 0, 0), (6, 0, 0), (7, 0, 0), (8, 0, 0)]) (fs' := [(0, 1, 14), (1, 1, 15), (2, 1, 16), (3, 1, 17), (4, 1, 18), (5, 0, 0), (6, 0, 0), (7, 0, 0), (8, 0, 0)]) hZ tyX0 tyX0_ok nmX0 dX0_init_56 rfl (by decide) iw_X0 wf_X0_37 rfl ⟨by decide, by decide⟩ (by decide +kernel) (Nat.le_of_ble_eq_true rfl) (by decide +kernel) (by decide +kernel) (by decide +kernel) rfl (by decide) (up_z (by decide +kernel)) ?_
  exact g_ret hZ hR dX0_init_59 rfl (Nat.le_of_ble_eq_true rfl) (Nat.le_of_ble_eq_true rfl) (by decide +kernel) rfl

set_option maxRecDepth 20000 in
set_option maxHeartbeats 4000000 in
theorem k_X2 {X : fX} {bs d : Nat} (hx : ∀ c, xa X c = bs + c) : gC X bs (d + 1) mX2_init [.ref (xa X 37), .ref (xa X 20)] gl_6 zM (gQ X bs gl_7 mT) 1 0 := by
  refine gC.of (L := [_, _]) hx (by decide +kernel) rfl (Nat.le_of_ble_eq_true rfl) (fun Z hZ hR => ?_)
  refine g_aload_n hZ dX2_init_0 rfl ?_
  refine g_obj hZ dX2_init_1 (tb_in 151 (by decide +kernel) (by decide +kernel)) (Nat.le_of_ble_eq_true rfl) ?_
  refine g_aload_n hZ dX2_init_4 rfl ?_
  refine g_iconst hZ dX2_init_5 ?_
  refine g_put (c := 37) (ci := 1) (kf := 2) (kd := 0) (v := 0) (M' := zM) (fs := [(0, 4, 0), (1, 4, 0), (2, 0, 0), (3, 0, 0), (4, 0, 0), (5, 0, 0), (6, 0, 0), (7, 0, 0), (8, 0, 0)]) (fs' := [(0, 4, 0), (1, 4, 0), (2, 0, 0), (3, 0, 0), (4, 0, 0), (5, 0, 0), (6, 0, 0), (7, 0, 0), (8, 0, 0)]) hZ tyX2 tyX2_ok nmX2 dX2_init_6 rfl (by decide) iw_X2 wf_X2_9 rfl ⟨by decide, by decide⟩ (by decide +kernel) (Nat.le_of_ble_eq_true rfl) (by decide +kernel) (by decide +kernel) (by decide +kernel) rfl (by decide) (up_z (by decide +kernel)) ?_
  refine g_aload_n hZ dX2_init_9 rfl ?_
  refine g_iconst hZ dX2_init_10 ?_
  refine g_put (c := 37) (ci := 1) (kf := 3) (kd := 0) (v := 0) (M' := zM) (fs := [(0, 4, 0), (1, 4, 0), (2, 0, 0), (3, 0, 0), (4, 0, 0), (5, 0, 0), (6, 0, 0), (7, 0, 0), (8, 0, 0)]) (fs' := [(0, 4, 0), (1, 4, 0), (2, 0, 0), (3, 0, 0), (4, 0, 0), (5, 0, 0), (6, 0, 0), (7, 0, 0), (8, 0, 0)]) hZ tyX2 tyX2_ok nmX2 dX2_init_11 rfl (by decide) iw_X2 wf_X2_15 rfl ⟨by decide, by decide⟩ (by decide +kernel) (Nat.le_of_ble_eq_true rfl) (by decide +kernel) (by decide +kernel) (by decide +kernel) rfl (by decide) (up_z (by decide +kernel)) ?_
  refine g_aload_n hZ dX2_init_14 rfl ?_
  refine g_iconst hZ dX2_init_15 ?_
  refine g_put (c := 37) (ci := 1) (kf := 4) (kd := 0) (v := 0) (M' := zM) (fs := [(0, 4, 0), (1, 4, 0), (2, 0, 0), (3, 0, 0), (4, 0, 0), (5, 0, 0), (6, 0, 0), (7, 0, 0), (8, 0, 0)]) (fs' := [(0, 4, 0), (1, 4, 0), (2, 0, 0), (3, 0, 0), (4, 0, 0), (5, 0, 0), (6, 0, 0), (7, 0, 0), (8, 0, 0)]) hZ tyX2 tyX2_ok nmX2 dX2_init_16 rfl (by decide) iw_X2 wf_X2_18 rfl ⟨by decide, by decide⟩ (by decide +kernel) (Nat.le_of_ble_eq_true rfl) (by decide +kernel) (by decide +kernel) (by decide +kernel) rfl (by decide) (up_z (by decide +kernel)) ?_
  refine g_aload_n hZ dX2_init_19 rfl ?_
  refine g_iconst hZ dX2_init_20 ?_
  refine g_put (c := 37) (ci := 1) (kf := 5) (kd := 0) (v := 0) (M' := zM) (fs := [(0, 4, 0), (1, 4, 0), (2, 0, 0), (3, 0, 0), (4, 0, 0), (5, 0, 0), (6, 0, 0), (7, 0, 0), (8, 0, 0)]) (fs' := [(0, 4, 0), (1, 4, 0), (2, 0, 0), (3, 0, 0), (4, 0, 0), (5, 0, 0), (6, 0, 0), (7, 0, 0), (8, 0, 0)]) hZ tyX2 tyX2_ok nmX2 dX2_init_21 rfl (by decide) iw_X2 wf_X2_21 rfl ⟨by decide, by decide⟩ (by decide +kernel) (Nat.le_of_ble_eq_true rfl) (by decide +kernel) (by decide +kernel) (by decide +kernel) rfl (by decide) (up_z (by decide +kernel)) ?_
  refine g_aload_n hZ dX2_init_24 rfl ?_
  refine g_sipush hZ dX2_init_25 ?_
  refine g_put (c := 37) (ci := 1) (kf := 6) (kd := 0) (v := 259) (M' := up zM 37 6 259) (fs := [(0, 4, 0), (1, 4, 0), (2, 0, 0), (3, 0, 0), (4, 0, 0), (5, 0, 0), (6, 0, 0), (7, 0, 0), (8, 0, 0)]) (fs' := [(0, 4, 0), (1, 4, 0), (2, 0, 0), (3, 0, 0), (4, 0, 0), (5, 0, 0), (6, 0, 0), (7, 0, 0), (8, 0, 0)]) hZ tyX2 tyX2_ok nmX2 dX2_init_28 rfl (by decide) iw_X2 wf_X2_24 rfl ⟨by decide, by decide⟩ (by decide +kernel) (Nat.le_of_ble_eq_true rfl) (by decide +kernel) (by decide +kernel) (by decide +kernel) rfl (by decide) rfl ?_
  refine g_aload_n hZ dX2_init_31 rfl ?_
  refine g_iconst hZ dX2_init_32 ?_
  refine g_put (c := 37) (ci := 1) (kf := 7) (kd := 0) (v := 0) (M' := up zM 37 6 259) (fs := [(0, 4, 0), (1, 4, 0), (2, 0, 0), (3, 0, 0), (4, 0, 0), (5, 0, 0), (6, 0, 0), (7, 0, 0), (8, 0, 0)]) (fs' := [(0, 4, 0), (1, 4, 0), (2, 0, 0), (3, 0, 0), (4, 0, 0), (5, 0, 0), (6, 0, 0), (7, 0, 0), (8, 0, 0)]) hZ tyX2 tyX2_ok nmX2 dX2_init_33 rfl (by decide) iw_X2 wf_X2_27 rfl ⟨by decide, by decide⟩ (by decide +kernel) (Nat.le_of_ble_eq_true rfl) (by decide +kernel) (by decide +kernel) (by decide +kernel) rfl (by decide) (up_z (by decide +kernel)) ?_
  refine g_aload_n hZ dX2_init_36 rfl ?_
  refine g_iconst hZ dX2_init_37 ?_
  refine g_put (c := 37) (ci := 1) (kf := 8) (kd := 0) (v := -1) (M' := up (up zM 37 6 259) 37 8 (-1)) (fs := [(0, 4, 0), (1, 4, 0), (2, 0, 0), (3, 0, 0), (4, 0, 0), (5, 0, 0), (6, 0, 0), (7, 0, 0), (8, 0, 0)]) (fs' := [(0, 4, 0), (1, 4, 0), (2, 0, 0), (3, 0, 0), (4, 0, 0), (5, 0, 0), (6, 0, 0), (7, 0, 0), (8, 0, 0)]) hZ tyX2 tyX2_ok nmX2 dX2_init_38 rfl (by decide) iw_X2 wf_X2_30 rfl ⟨by decide, by decide⟩ (by decide +kernel) (Nat.le_of_ble_eq_true rfl) (by decide +kernel) (by decide +kernel) (by decide +kernel) rfl (by decide) rfl ?_
  refine g_aload_n hZ dX2_init_41 rfl ?_
  refine g_aload_n hZ dX2_init_42 rfl ?_
  refine g_putF (c := 37) (ci := 1) (kf := 0) (t := 20) (fs := [(0, 4, 0), (1, 4, 0), (2, 0, 0), (3, 0, 0), (4, 0, 0), (5, 0, 0), (6, 0, 0), (7, 0, 0), (8, 0, 0)]) hZ tyX2 tyX2_ok nmX2 dX2_init_43 rfl (by decide) iw_X2 wf_X2_33 rfl rfl hR.2.2.2 rfl ⟨rfl, rfl⟩ (by decide +kernel) (Nat.le_of_ble_eq_true rfl) ?_
  refine g_aload_n hZ dX2_init_46 rfl ?_
  refine g_iconst hZ dX2_init_47 ?_
  refine g_newI (N := 0) (z := 38) hZ rfl dX2_init_48 (Nat.le_of_ble_eq_true rfl) (Nat.le_of_ble_eq_true rfl) (Nat.le_of_ble_eq_true rfl) (by decide +kernel) (fun i => by simp [mY, mW, mV, mU, mT, zM, up]) ?_
  refine g_put (c := 37) (ci := 1) (kf := 1) (kd := 3) (v := 38) (M' := mT) (fs := [(0, 1, 20), (1, 4, 0), (2, 0, 0), (3, 0, 0), (4, 0, 0), (5, 0, 0), (6, 0, 0), (7, 0, 0), (8, 0, 0)]) (fs' := [(0, 1, 20), (1, 3, 0), (2, 0, 0), (3, 0, 0), (4, 0, 0), (5, 0, 0), (6, 0, 0), (7, 0, 0), (8, 0, 0)]) hZ tyX2 tyX2_ok nmX2 dX2_init_50 rfl (by decide) iw_X2 wf_X2_37 rfl ⟨rfl, rfl⟩ (by decide +kernel) (Nat.le_of_ble_eq_true rfl) (by decide +kernel) (by decide +kernel) (by decide +kernel) rfl (by decide) rfl ?_
  exact g_ret hZ hR dX2_init_53 rfl (Nat.le_of_ble_eq_true rfl) (Nat.le_of_ble_eq_true rfl) (by decide +kernel) rfl

set_option maxRecDepth 20000 in
set_option maxHeartbeats 4000000 in
theorem k_X5 {X : fX} {bs d : Nat} (hx : ∀ c, xa X c = bs + c) : gC X bs (d + 2) mX5_init [.ref (xa X 19)] gl_8 zM (gQ X bs gl_9 mU) 19 1331 := by
  refine gC.of (L := [_, _]) hx (by decide +kernel) rfl (Nat.le_of_ble_eq_true rfl) (fun Z hZ hR => ?_)
  refine g_aload_n hZ dX5_init_0 rfl ?_
  refine g_obj hZ dX5_init_1 (tb_in 143 (by decide +kernel) (by decide +kernel)) (Nat.le_of_ble_eq_true rfl) ?_
  refine g_aload_n hZ dX5_init_4 rfl ?_
  refine g_sipush hZ dX5_init_5 ?_
  refine g_newI (N := 160) (z := 20) hZ rfl dX5_init_8 (Nat.le_of_ble_eq_true rfl) (Nat.le_of_ble_eq_true rfl) (Nat.le_of_ble_eq_true rfl) (by decide +kernel) (fun i => by simp [mY, mW, mV, mU, mT, zM, up]) ?_
  refine g_putF (c := 19) (ci := 4) (kf := 0) (t := 20) (fs := [(0, 4, 0), (1, 4, 0), (2, 4, 0), (3, 4, 0), (4, 4, 0), (5, 4, 0), (6, 0, 0), (7, 0, 0)]) hZ tyX5 tyX5_ok nmX5 dX5_init_10 rfl (by decide) iw_X5 wf_X5_9 rfl rfl hR.2.2.2 rfl ⟨rfl, rfl⟩ (by decide +kernel) (Nat.le_of_ble_eq_true rfl) ?_
  refine g_aload_n hZ dX5_init_13 rfl ?_
  refine g_bipush hZ dX5_init_14 ?_
  refine g_sipush hZ dX5_init_16 ?_
  refine g_mna (N := 6) (K := 160) (z := 21) hZ rfl rfl dX5_init_19 (tb_in 144 (by decide +kernel) (by decide +kernel)) (Nat.le_of_ble_eq_true rfl) (Nat.le_of_ble_eq_true rfl) ⟨(Nat.le_of_ble_eq_true rfl), (Nat.le_of_ble_eq_true rfl)⟩ (by decide +kernel) (fun j hj i => by rcases (show j = 0 ∨ j = 1 ∨ j = 2 ∨ j = 3 ∨ j = 4 ∨ j = 5 ∨ j = 6 by omega) with e | e | e | e | e | e | e <;> subst e <;> simp [mY, mW, mV, mU, mT, zM, up]) ?_
  refine g_putF (c := 19) (ci := 4) (kf := 1) (t := 21) (fs := [(0, 1, 20), (1, 4, 0), (2, 4, 0), (3, 4, 0), (4, 4, 0), (5, 4, 0), (6, 0, 0), (7, 0, 0)]) hZ tyX5 tyX5_ok nmX5 dX5_init_23 rfl (by decide) iw_X5 wf_X5_17 rfl rfl hR.2.2.2 rfl ⟨rfl, rfl⟩ (by decide +kernel) (Nat.le_of_ble_eq_true rfl) ?_
  refine g_aload_n hZ dX5_init_26 rfl ?_
  refine g_bipush hZ dX5_init_27 ?_
  refine g_iconst hZ dX5_init_29 ?_
  refine g_mna (N := 6) (K := 4) (z := 28) hZ rfl rfl dX5_init_30 (tb_in 144 (by decide +kernel) (by decide +kernel)) (Nat.le_of_ble_eq_true rfl) (Nat.le_of_ble_eq_true rfl) ⟨(Nat.le_of_ble_eq_true rfl), (Nat.le_of_ble_eq_true rfl)⟩ (by decide +kernel) (fun j hj i => by rcases (show j = 0 ∨ j = 1 ∨ j = 2 ∨ j = 3 ∨ j = 4 ∨ j = 5 ∨ j = 6 by omega) with e | e | e | e | e | e | e <;> subst e <;> simp [mY, mW, mV, mU, mT, zM, up]) ?_
  refine g_putF (c := 19) (ci := 4) (kf := 2) (t := 28) (fs := [(0, 1, 20), (1, 1, 21), (2, 4, 0), (3, 4, 0), (4, 4, 0), (5, 4, 0), (6, 0, 0), (7, 0, 0)]) hZ tyX5 tyX5_ok nmX5 dX5_init_34 rfl (by decide) iw_X5 wf_X5_20 rfl rfl hR.2.2.2 rfl ⟨rfl, rfl⟩ (by decide +kernel) (Nat.le_of_ble_eq_true rfl) ?_
  refine g_aload_n hZ dX5_init_37 rfl ?_
  refine g_bipush hZ dX5_init_38 ?_
  refine g_newI (N := 6) (z := 35) hZ rfl dX5_init_40 (Nat.le_of_ble_eq_true rfl) (Nat.le_of_ble_eq_true rfl) (Nat.le_of_ble_eq_true rfl) (by decide +kernel) (fun i => by simp [mY, mW, mV, mU, mT, zM, up]) ?_
  refine g_putF (c := 19) (ci := 4) (kf := 3) (t := 35) (fs := [(0, 1, 20), (1, 1, 21), (2, 1, 28), (3, 4, 0), (4, 4, 0), (5, 4, 0), (6, 0, 0), (7, 0, 0)]) hZ tyX5 tyX5_ok nmX5 dX5_init_42 rfl (by decide) iw_X5 wf_X5_25 rfl rfl hR.2.2.2 rfl ⟨rfl, rfl⟩ (by decide +kernel) (Nat.le_of_ble_eq_true rfl) ?_
  refine g_aload_n hZ dX5_init_45 rfl ?_
  refine g_sipush hZ dX5_init_46 ?_
  refine g_newI (N := 160) (z := 36) hZ rfl dX5_init_49 (Nat.le_of_ble_eq_true rfl) (Nat.le_of_ble_eq_true rfl) (Nat.le_of_ble_eq_true rfl) (by decide +kernel) (fun i => by simp [mY, mW, mV, mU, mT, zM, up]) ?_
  refine g_putF (c := 19) (ci := 4) (kf := 4) (t := 36) (fs := [(0, 1, 20), (1, 1, 21), (2, 1, 28), (3, 1, 35), (4, 4, 0), (5, 4, 0), (6, 0, 0), (7, 0, 0)]) hZ tyX5 tyX5_ok nmX5 dX5_init_51 rfl (by decide) iw_X5 wf_X5_28 rfl rfl hR.2.2.2 rfl ⟨rfl, rfl⟩ (by decide +kernel) (Nat.le_of_ble_eq_true rfl) ?_
  refine g_aload_n hZ dX5_init_54 rfl ?_
  refine g_new (ci := 1) (z := 37) (fs := [(0, 4, 0), (1, 4, 0), (2, 0, 0), (3, 0, 0), (4, 0, 0), (5, 0, 0), (6, 0, 0), (7, 0, 0), (8, 0, 0)]) hZ tyX2 tyX2_ok dX5_init_55 rfl iw_X2 (tb_in 146 (by decide +kernel) (by decide +kernel)) (tb_in 147 (by decide +kernel) (by decide +kernel)) (tb_in 70 (by decide +kernel) (by decide +kernel)) (by decide +kernel) (by decide +kernel) (Nat.le_of_ble_eq_true rfl) (Nat.le_of_ble_eq_true rfl) (by decide +kernel) (fun i => by simp [mY, mW, mV, mU, mT, zM, up]) ?_
  refine g_dup hZ dX5_init_58 rfl ?_
  refine g_aload_n hZ dX5_init_59 rfl ?_
  refine g_getR (c := 19) (ci := 4) (kf := 0) (t := 20) (fs := [(0, 1, 20), (1, 1, 21), (2, 1, 28), (3, 1, 35), (4, 1, 36), (5, 4, 0), (6, 0, 0), (7, 0, 0)]) hZ dX5_init_60 rfl (by decide) iw_X5 wf_X5_9 (by decide +kernel) (by decide +kernel) ?_
  refine g_toL (Ls' := gl_6) (by decide +kernel) ?_
  refine g_callI (c := 37) (na := 1) hZ dX5_init_63 (k_X2 hZ.x) okX2_init ⟨rfl, rfl⟩ ⟨tb_in 148 (by decide +kernel) (by decide +kernel), tb_in 149 (by decide +kernel) (by decide +kernel), tb_in 70 (by decide +kernel) (by decide +kernel)⟩ (As := [.ref (xa X 20)]) rfl rfl (Nat.le_of_ble_eq_true rfl) (Nat.le_of_ble_eq_true rfl) (Nat.le_of_ble_eq_true rfl) ?_
  refine g_putF (c := 19) (ci := 4) (kf := 5) (t := 37) (fs := [(0, 1, 20), (1, 1, 21), (2, 1, 28), (3, 1, 35), (4, 1, 36), (5, 4, 0), (6, 0, 0), (7, 0, 0)]) hZ tyX5 tyX5_ok nmX5 dX5_init_66 rfl (by decide) iw_X5 wf_X5_36 rfl rfl hR.2.2.2 rfl ⟨rfl, rfl⟩ (by decide +kernel) (Nat.le_of_ble_eq_true rfl) ?_
  refine g_aload_n hZ dX5_init_69 rfl ?_
  refine g_iconst hZ dX5_init_70 ?_
  refine g_put (c := 19) (ci := 4) (kf := 6) (kd := 0) (v := 0) (M' := mT) (fs := [(0, 1, 20), (1, 1, 21), (2, 1, 28), (3, 1, 35), (4, 1, 36), (5, 1, 37), (6, 0, 0), (7, 0, 0)]) (fs' := [(0, 1, 20), (1, 1, 21), (2, 1, 28), (3, 1, 35), (4, 1, 36), (5, 1, 37), (6, 0, 0), (7, 0, 0)]) hZ tyX5 tyX5_ok nmX5 dX5_init_71 rfl (by decide) iw_X5 wf_X5_40 rfl ⟨by decide, by decide⟩ (by decide +kernel) (Nat.le_of_ble_eq_true rfl) (by decide +kernel) (by decide +kernel) (by decide +kernel) rfl (by decide) (up_z (by decide +kernel)) ?_
  refine g_aload_n hZ dX5_init_74 rfl ?_
  refine g_iconst hZ dX5_init_75 ?_
  refine g_put (c := 19) (ci := 4) (kf := 7) (kd := 0) (v := 1) (M' := (up mT 19 7 1)) (fs := [(0, 1, 20), (1, 1, 21), (2, 1, 28), (3, 1, 35), (4, 1, 36), (5, 1, 37), (6, 0, 0), (7, 0, 0)]) (fs' := [(0, 1, 20), (1, 1, 21), (2, 1, 28), (3, 1, 35), (4, 1, 36), (5, 1, 37), (6, 0, 0), (7, 0, 0)]) hZ tyX5 tyX5_ok nmX5 dX5_init_76 rfl (by decide) iw_X5 wf_X5_44 rfl ⟨by decide, by decide⟩ (by decide +kernel) (Nat.le_of_ble_eq_true rfl) (by decide +kernel) (by decide +kernel) (by decide +kernel) rfl (by decide) rfl ?_
  refine g_aload_n hZ dX5_init_79 rfl ?_
  refine g_getR (c := 19) (ci := 4) (kf := 1) (t := 21) (fs := [(0, 1, 20), (1, 1, 21), (2, 1, 28), (3, 1, 35), (4, 1, 36), (5, 1, 37), (6, 0, 0), (7, 0, 0)]) hZ dX5_init_80 rfl (by decide) iw_X5 wf_X5_17 (by decide +kernel) (by decide +kernel) ?_
  refine g_iconst hZ dX5_init_83 ?_
  refine g_aaload (c := 21) (N := 6) (b := 22) (p := 0) (q := 0) hZ dX5_init_84 (by decide +kernel) (by omega) (by omega) (by omega) ?_
  refine g_iconst hZ dX5_init_85 ?_
  refine g_iconst hZ dX5_init_86 ?_
  refine g_iastore (c := 22) (N := 160) (fs := []) (M' := (up (up mT 19 7 1) 22 0 1)) hZ dX5_init_87 (by decide +kernel) (by omega) (by omega) (by omega) rfl ?_
  refine g_aload_n hZ dX5_init_88 rfl ?_
  refine g_getR (c := 19) (ci := 4) (kf := 1) (t := 21) (fs := [(0, 1, 20), (1, 1, 21), (2, 1, 28), (3, 1, 35), (4, 1, 36), (5, 1, 37), (6, 0, 0), (7, 0, 0)]) hZ dX5_init_89 rfl (by decide) iw_X5 wf_X5_17 (by decide +kernel) (by decide +kernel) ?_
  refine g_iconst hZ dX5_init_92 ?_
  refine g_aaload (c := 21) (N := 6) (b := 22) (p := 0) (q := 0) hZ dX5_init_93 (by decide +kernel) (by omega) (by omega) (by omega) ?_
  refine g_iconst hZ dX5_init_94 ?_
  refine g_sipush hZ dX5_init_95 ?_
  refine g_iastore (c := 22) (N := 160) (fs := []) (M' := (up (up (up mT 19 7 1) 22 0 1) 22 1 10005)) hZ dX5_init_98 (by decide +kernel) (by omega) (by omega) (by omega) rfl ?_
  refine g_aload_n hZ dX5_init_99 rfl ?_
  refine g_getR (c := 19) (ci := 4) (kf := 1) (t := 21) (fs := [(0, 1, 20), (1, 1, 21), (2, 1, 28), (3, 1, 35), (4, 1, 36), (5, 1, 37), (6, 0, 0), (7, 0, 0)]) hZ dX5_init_100 rfl (by decide) iw_X5 wf_X5_17 (by decide +kernel) (by decide +kernel) ?_
  refine g_iconst hZ dX5_init_103 ?_
  refine g_aaload (c := 21) (N := 6) (b := 22) (p := 0) (q := 0) hZ dX5_init_104 (by decide +kernel) (by omega) (by omega) (by omega) ?_
  refine g_iconst hZ dX5_init_105 ?_
  refine g_iconst hZ dX5_init_106 ?_
  refine g_iastore (c := 22) (N := 160) (fs := []) (M' := (up (up (up (up mT 19 7 1) 22 0 1) 22 1 10005) 22 2 1)) hZ dX5_init_107 (by decide +kernel) (by omega) (by omega) (by omega) rfl ?_
  refine g_iconst hZ dX5_init_108 ?_
  refine g_istore_n (L' := [_, _]) hZ dX5_init_109 rfl rfl ?_
  refine g_iload_n hZ dX5_init_110 rfl ?_
  refine g_iconst hZ dX5_init_111 ?_
  refine g_igt (tgt := 130) hZ dX5_init_112 rfl (by omega) (by omega) (fun h => by omega) (fun _ => ?_)
  refine g_aload_n hZ dX5_init_115 rfl ?_
  refine g_getR (c := 19) (ci := 4) (kf := 2) (t := 28) (fs := [(0, 1, 20), (1, 1, 21), (2, 1, 28), (3, 1, 35), (4, 1, 36), (5, 1, 37), (6, 0, 0), (7, 0, 0)]) hZ dX5_init_116 rfl (by decide) iw_X5 wf_X5_20 (by decide +kernel) (by decide +kernel) ?_
  refine g_iconst hZ dX5_init_119 ?_
  refine g_aaload (c := 28) (N := 6) (b := 29) (p := 0) (q := 0) hZ dX5_init_120 (by decide +kernel) (by omega) (by omega) (by omega) ?_
  refine g_iload_n hZ dX5_init_121 rfl ?_
  refine g_iload_n hZ dX5_init_122 rfl ?_
  refine g_iastore (c := 29) (N := 4) (fs := []) (M' := (up (up (up (up mT 19 7 1) 22 0 1) 22 1 10005) 22 2 1)) hZ dX5_init_123 (by decide +kernel) (by omega) (by omega) (by omega) (up_z (by decide +kernel)) ?_
  refine g_iinc (L' := [_, _]) hZ dX5_init_124 rfl rfl ?_
  refine g_goto (tgt := 110) hZ dX5_init_127 rfl ?_
  refine g_iload_n hZ dX5_init_110 rfl ?_
  refine g_iconst hZ dX5_init_111 ?_
  refine g_igt (tgt := 130) hZ dX5_init_112 rfl (by omega) (by omega) (fun h => by omega) (fun _ => ?_)
  refine g_aload_n hZ dX5_init_115 rfl ?_
  refine g_getR (c := 19) (ci := 4) (kf := 2) (t := 28) (fs := [(0, 1, 20), (1, 1, 21), (2, 1, 28), (3, 1, 35), (4, 1, 36), (5, 1, 37), (6, 0, 0), (7, 0, 0)]) hZ dX5_init_116 rfl (by decide) iw_X5 wf_X5_20 (by decide +kernel) (by decide +kernel) ?_
  refine g_iconst hZ dX5_init_119 ?_
  refine g_aaload (c := 28) (N := 6) (b := 29) (p := 0) (q := 0) hZ dX5_init_120 (by decide +kernel) (by omega) (by omega) (by omega) ?_
  refine g_iload_n hZ dX5_init_121 rfl ?_
  refine g_iload_n hZ dX5_init_122 rfl ?_
  refine g_iastore (c := 29) (N := 4) (fs := []) (M' := (up (up (up (up (up mT 19 7 1) 22 0 1) 22 1 10005) 22 2 1) 29 1 1)) hZ dX5_init_123 (by decide +kernel) (by omega) (by omega) (by omega) rfl ?_
  refine g_iinc (L' := [_, _]) hZ dX5_init_124 rfl rfl ?_
  refine g_goto (tgt := 110) hZ dX5_init_127 rfl ?_
  refine g_iload_n hZ dX5_init_110 rfl ?_
  refine g_iconst hZ dX5_init_111 ?_
  refine g_igt (tgt := 130) hZ dX5_init_112 rfl (by omega) (by omega) (fun h => by omega) (fun _ => ?_)
  refine g_aload_n hZ dX5_init_115 rfl ?_
  refine g_getR (c := 19) (ci := 4) (kf := 2) (t := 28) (fs := [(0, 1, 20), (1, 1, 21), (2, 1, 28), (3, 1, 35), (4, 1, 36), (5, 1, 37), (6, 0, 0), (7, 0, 0)]) hZ dX5_init_116 rfl (by decide) iw_X5 wf_X5_20 (by decide +kernel) (by decide +kernel) ?_
  refine g_iconst hZ dX5_init_119 ?_
  refine g_aaload (c := 28) (N := 6) (b := 29) (p := 0) (q := 0) hZ dX5_init_120 (by decide +kernel) (by omega) (by omega) (by omega) ?_
  refine g_iload_n hZ dX5_init_121 rfl ?_
  refine g_iload_n hZ dX5_init_122 rfl ?_
  refine g_iastore (c := 29) (N := 4) (fs := []) (M' := (up (up (up (up (up (up mT 19 7 1) 22 0 1) 22 1 10005) 22 2 1) 29 1 1) 29 2 2)) hZ dX5_init_123 (by decide +kernel) (by omega) (by omega) (by omega) rfl ?_
  refine g_iinc (L' := [_, _]) hZ dX5_init_124 rfl rfl ?_
  refine g_goto (tgt := 110) hZ dX5_init_127 rfl ?_
  refine g_iload_n hZ dX5_init_110 rfl ?_
  refine g_iconst hZ dX5_init_111 ?_
  refine g_igt (tgt := 130) hZ dX5_init_112 rfl (by omega) (by omega) (fun h => by omega) (fun _ => ?_)
  refine g_aload_n hZ dX5_init_115 rfl ?_
  refine g_getR (c := 19) (ci := 4) (kf := 2) (t := 28) (fs := [(0, 1, 20), (1, 1, 21), (2, 1, 28), (3, 1, 35), (4, 1, 36), (5, 1, 37), (6, 0, 0), (7, 0, 0)]) hZ dX5_init_116 rfl (by decide) iw_X5 wf_X5_20 (by decide +kernel) (by decide +kernel) ?_
  refine g_iconst hZ dX5_init_119 ?_
  refine g_aaload (c := 28) (N := 6) (b := 29) (p := 0) (q := 0) hZ dX5_init_120 (by decide +kernel) (by omega) (by omega) (by omega) ?_
  refine g_iload_n hZ dX5_init_121 rfl ?_
  refine g_iload_n hZ dX5_init_122 rfl ?_
  refine g_iastore (c := 29) (N := 4) (fs := []) (M' := mU) hZ dX5_init_123 (by decide +kernel) (by omega) (by omega) (by omega) rfl ?_
  refine g_iinc (L' := [_, _]) hZ dX5_init_124 rfl rfl ?_
  refine g_goto (tgt := 110) hZ dX5_init_127 rfl ?_
  refine g_iload_n hZ dX5_init_110 rfl ?_
  refine g_iconst hZ dX5_init_111 ?_
  refine g_igt (tgt := 130) hZ dX5_init_112 rfl (by omega) (by omega) (fun _ => ?_) (fun h => by omega)
  exact g_ret hZ hR dX5_init_130 rfl (Nat.le_of_ble_eq_true rfl) (Nat.le_of_ble_eq_true rfl) (by decide +kernel) rfl

set_option maxRecDepth 20000 in
set_option maxHeartbeats 4000000 in
theorem k_X4 {X : fX} {bs d : Nat} (hx : ∀ c, xa X c = bs + c) : gC X bs (d + 1) mX4_init [.ref (xa X 39), .ref (xa X 1), .ref (xa X 19)] gl_10 mU (gQ X bs gl_11 mV) 9 1310 := by
  refine gC.of (L := [_, _, _]) hx (by decide +kernel) rfl (Nat.le_of_ble_eq_true rfl) (fun Z hZ hR => ?_)
  refine g_aload_n hZ dX4_init_0 rfl ?_
  refine g_obj hZ dX4_init_1 (tb_in 212 (by decide +kernel) (by decide +kernel)) (Nat.le_of_ble_eq_true rfl) ?_
  refine g_aload_n hZ dX4_init_4 rfl ?_
  refine g_sipush hZ dX4_init_5 ?_
  refine g_newI (N := 403) (z := 40) hZ rfl dX4_init_8 (Nat.le_of_ble_eq_true rfl) (Nat.le_of_ble_eq_true rfl) (Nat.le_of_ble_eq_true rfl) (by decide +kernel) (fun i => by simp [mY, mW, mV, mU, mT, zM, up]) ?_
  refine g_putF (c := 39) (ci := 3) (kf := 2) (t := 40) (fs := [(0, 4, 0), (1, 4, 0), (2, 4, 0), (3, 4, 0), (4, 4, 0), (5, 4, 0), (6, 4, 0), (7, 4, 0), (8, 4, 0), (9, 4, 0), (10, 4, 0), (11, 0, 0), (12, 0, 0)]) hZ tyX4 tyX4_ok nmX4 dX4_init_10 rfl (by decide) iw_X4 wf_X4_11 rfl rfl hR.2.2.2 rfl ⟨rfl, rfl⟩ (by decide +kernel) (Nat.le_of_ble_eq_true rfl) ?_
  refine g_aload_n hZ dX4_init_13 rfl ?_
  refine g_sipush hZ dX4_init_14 ?_
  refine g_newI (N := 403) (z := 41) hZ rfl dX4_init_17 (Nat.le_of_ble_eq_true rfl) (Nat.le_of_ble_eq_true rfl) (Nat.le_of_ble_eq_true rfl) (by decide +kernel) (fun i => by simp [mY, mW, mV, mU, mT, zM, up]) ?_
  refine g_putF (c := 39) (ci := 3) (kf := 3) (t := 41) (fs := [(0, 4, 0), (1, 4, 0), (2, 1, 40), (3, 4, 0), (4, 4, 0), (5, 4, 0), (6, 4, 0), (7, 4, 0), (8, 4, 0), (9, 4, 0), (10, 4, 0), (11, 0, 0), (12, 0, 0)]) hZ tyX4 tyX4_ok nmX4 dX4_init_19 rfl (by decide) iw_X4 wf_X4_15 rfl rfl hR.2.2.2 rfl ⟨rfl, rfl⟩ (by decide +kernel) (Nat.le_of_ble_eq_true rfl) ?_
  refine g_aload_n hZ dX4_init_22 rfl ?_
  refine g_sipush hZ dX4_init_23 ?_
  refine g_newI (N := 403) (z := 42) hZ rfl dX4_init_26 (Nat.le_of_ble_eq_true rfl) (Nat.le_of_ble_eq_true rfl) (Nat.le_of_ble_eq_true rfl) (by decide +kernel) (fun i => by simp [mY, mW, mV, mU, mT, zM, up]) ?_
  refine g_putF (c := 39) (ci := 3) (kf := 4) (t := 42) (fs := [(0, 4, 0), (1, 4, 0), (2, 1, 40), (3, 1, 41), (4, 4, 0), (5, 4, 0), (6, 4, 0), (7, 4, 0), (8, 4, 0), (9, 4, 0), (10, 4, 0), (11, 0, 0), (12, 0, 0)]) hZ tyX4 tyX4_ok nmX4 dX4_init_28 rfl (by decide) iw_X4 wf_X4_18 rfl rfl hR.2.2.2 rfl ⟨rfl, rfl⟩ (by decide +kernel) (Nat.le_of_ble_eq_true rfl) ?_
  refine g_aload_n hZ dX4_init_31 rfl ?_
  refine g_bipush hZ dX4_init_32 ?_
  refine g_newI (N := 20) (z := 43) hZ rfl dX4_init_34 (Nat.le_of_ble_eq_true rfl) (Nat.le_of_ble_eq_true rfl) (Nat.le_of_ble_eq_true rfl) (by decide +kernel) (fun i => by simp [mY, mW, mV, mU, mT, zM, up]) ?_
  refine g_putF (c := 39) (ci := 3) (kf := 5) (t := 43) (fs := [(0, 4, 0), (1, 4, 0), (2, 1, 40), (3, 1, 41), (4, 1, 42), (5, 4, 0), (6, 4, 0), (7, 4, 0), (8, 4, 0), (9, 4, 0), (10, 4, 0), (11, 0, 0), (12, 0, 0)]) hZ tyX4 tyX4_ok nmX4 dX4_init_36 rfl (by decide) iw_X4 wf_X4_21 rfl rfl hR.2.2.2 rfl ⟨rfl, rfl⟩ (by decide +kernel) (Nat.le_of_ble_eq_true rfl) ?_
  refine g_aload_n hZ dX4_init_39 rfl ?_
  refine g_bipush hZ dX4_init_40 ?_
  refine g_newI (N := 20) (z := 44) hZ rfl dX4_init_42 (Nat.le_of_ble_eq_true rfl) (Nat.le_of_ble_eq_true rfl) (Nat.le_of_ble_eq_true rfl) (by decide +kernel) (fun i => by simp [mY, mW, mV, mU, mT, zM, up]) ?_
  refine g_putF (c := 39) (ci := 3) (kf := 6) (t := 44) (fs := [(0, 4, 0), (1, 4, 0), (2, 1, 40), (3, 1, 41), (4, 1, 42), (5, 1, 43), (6, 4, 0), (7, 4, 0), (8, 4, 0), (9, 4, 0), (10, 4, 0), (11, 0, 0), (12, 0, 0)]) hZ tyX4 tyX4_ok nmX4 dX4_init_44 rfl (by decide) iw_X4 wf_X4_24 rfl rfl hR.2.2.2 rfl ⟨rfl, rfl⟩ (by decide +kernel) (Nat.le_of_ble_eq_true rfl) ?_
  refine g_aload_n hZ dX4_init_47 rfl ?_
  refine g_bipush hZ dX4_init_48 ?_
  refine g_newI (N := 40) (z := 45) hZ rfl dX4_init_50 (Nat.le_of_ble_eq_true rfl) (Nat.le_of_ble_eq_true rfl) (Nat.le_of_ble_eq_true rfl) (by decide +kernel) (fun i => by simp [mY, mW, mV, mU, mT, zM, up]) ?_
  refine g_putF (c := 39) (ci := 3) (kf := 7) (t := 45) (fs := [(0, 4, 0), (1, 4, 0), (2, 1, 40), (3, 1, 41), (4, 1, 42), (5, 1, 43), (6, 1, 44), (7, 4, 0), (8, 4, 0), (9, 4, 0), (10, 4, 0), (11, 0, 0), (12, 0, 0)]) hZ tyX4 tyX4_ok nmX4 dX4_init_52 rfl (by decide) iw_X4 wf_X4_27 rfl rfl hR.2.2.2 rfl ⟨rfl, rfl⟩ (by decide +kernel) (Nat.le_of_ble_eq_true rfl) ?_
  refine g_aload_n hZ dX4_init_55 rfl ?_
  refine g_bipush hZ dX4_init_56 ?_
  refine g_newI (N := 12) (z := 46) hZ rfl dX4_init_58 (Nat.le_of_ble_eq_true rfl) (Nat.le_of_ble_eq_true rfl) (Nat.le_of_ble_eq_true rfl) (by decide +kernel) (fun i => by simp [mY, mW, mV, mU, mT, zM, up]) ?_
  refine g_putF (c := 39) (ci := 3) (kf := 8) (t := 46) (fs := [(0, 4, 0), (1, 4, 0), (2, 1, 40), (3, 1, 41), (4, 1, 42), (5, 1, 43), (6, 1, 44), (7, 1, 45), (8, 4, 0), (9, 4, 0), (10, 4, 0), (11, 0, 0), (12, 0, 0)]) hZ tyX4 tyX4_ok nmX4 dX4_init_60 rfl (by decide) iw_X4 wf_X4_30 rfl rfl hR.2.2.2 rfl ⟨rfl, rfl⟩ (by decide +kernel) (Nat.le_of_ble_eq_true rfl) ?_
  refine g_aload_n hZ dX4_init_63 rfl ?_
  refine g_iconst hZ dX4_init_64 ?_
  refine g_newI (N := 5) (z := 47) hZ rfl dX4_init_65 (Nat.le_of_ble_eq_true rfl) (Nat.le_of_ble_eq_true rfl) (Nat.le_of_ble_eq_true rfl) (by decide +kernel) (fun i => by simp [mY, mW, mV, mU, mT, zM, up]) ?_
  refine g_putF (c := 39) (ci := 3) (kf := 9) (t := 47) (fs := [(0, 4, 0), (1, 4, 0), (2, 1, 40), (3, 1, 41), (4, 1, 42), (5, 1, 43), (6, 1, 44), (7, 1, 45), (8, 1, 46), (9, 4, 0), (10, 4, 0), (11, 0, 0), (12, 0, 0)]) hZ tyX4 tyX4_ok nmX4 dX4_init_67 rfl (by decide) iw_X4 wf_X4_33 rfl rfl hR.2.2.2 rfl ⟨rfl, rfl⟩ (by decide +kernel) (Nat.le_of_ble_eq_true rfl) ?_
  refine g_aload_n hZ dX4_init_70 rfl ?_
  refine g_iconst hZ dX4_init_71 ?_
  refine g_newI (N := 4) (z := 48) hZ rfl dX4_init_72 (Nat.le_of_ble_eq_true rfl) (Nat.le_of_ble_eq_true rfl) (Nat.le_of_ble_eq_true rfl) (by decide +kernel) (fun i => by simp [mY, mW, mV, mU, mT, zM, up]) ?_
  refine g_putF (c := 39) (ci := 3) (kf := 10) (t := 48) (fs := [(0, 4, 0), (1, 4, 0), (2, 1, 40), (3, 1, 41), (4, 1, 42), (5, 1, 43), (6, 1, 44), (7, 1, 45), (8, 1, 46), (9, 1, 47), (10, 4, 0), (11, 0, 0), (12, 0, 0)]) hZ tyX4 tyX4_ok nmX4 dX4_init_74 rfl (by decide) iw_X4 wf_X4_36 rfl rfl hR.2.2.2 rfl ⟨rfl, rfl⟩ (by decide +kernel) (Nat.le_of_ble_eq_true rfl) ?_
  refine g_aload_n hZ dX4_init_77 rfl ?_
  refine g_iconst hZ dX4_init_78 ?_
  refine g_put (c := 39) (ci := 3) (kf := 11) (kd := 0) (v := -1) (M' := mV) (fs := [(0, 4, 0), (1, 4, 0), (2, 1, 40), (3, 1, 41), (4, 1, 42), (5, 1, 43), (6, 1, 44), (7, 1, 45), (8, 1, 46), (9, 1, 47), (10, 1, 48), (11, 0, 0), (12, 0, 0)]) (fs' := [(0, 4, 0), (1, 4, 0), (2, 1, 40), (3, 1, 41), (4, 1, 42), (5, 1, 43), (6, 1, 44), (7, 1, 45), (8, 1, 46), (9, 1, 47), (10, 1, 48), (11, 0, 0), (12, 0, 0)]) hZ tyX4 tyX4_ok nmX4 dX4_init_79 rfl (by decide) iw_X4 wf_X4_39 rfl ⟨by decide, by decide⟩ (by decide +kernel) (Nat.le_of_ble_eq_true rfl) (by decide +kernel) (by decide +kernel) (by decide +kernel) rfl (by decide) rfl ?_
  refine g_aload_n hZ dX4_init_82 rfl ?_
  refine g_iconst hZ dX4_init_83 ?_
  refine g_put (c := 39) (ci := 3) (kf := 12) (kd := 0) (v := 0) (M' := mV) (fs := [(0, 4, 0), (1, 4, 0), (2, 1, 40), (3, 1, 41), (4, 1, 42), (5, 1, 43), (6, 1, 44), (7, 1, 45), (8, 1, 46), (9, 1, 47), (10, 1, 48), (11, 0, 0), (12, 0, 0)]) (fs' := [(0, 4, 0), (1, 4, 0), (2, 1, 40), (3, 1, 41), (4, 1, 42), (5, 1, 43), (6, 1, 44), (7, 1, 45), (8, 1, 46), (9, 1, 47), (10, 1, 48), (11, 0, 0), (12, 0, 0)]) hZ tyX4 tyX4_ok nmX4 dX4_init_84 rfl (by decide) iw_X4 wf_X4_43 rfl ⟨by decide, by decide⟩ (by decide +kernel) (Nat.le_of_ble_eq_true rfl) (by decide +kernel) (by decide +kernel) (by decide +kernel) rfl (by decide) (up_z (by decide +kernel)) ?_
  refine g_aload_n hZ dX4_init_87 rfl ?_
  refine g_aload_n hZ dX4_init_88 rfl ?_
  refine g_putF (c := 39) (ci := 3) (kf := 0) (t := 1) (fs := [(0, 4, 0), (1, 4, 0), (2, 1, 40), (3, 1, 41), (4, 1, 42), (5, 1, 43), (6, 1, 44), (7, 1, 45), (8, 1, 46), (9, 1, 47), (10, 1, 48), (11, 0, 0), (12, 0, 0)]) hZ tyX4 tyX4_ok nmX4 dX4_init_89 rfl (by decide) iw_X4 wf_X4_47 rfl rfl hR.2.2.2 rfl ⟨rfl, rfl⟩ (by decide +kernel) (Nat.le_of_ble_eq_true rfl) ?_
  refine g_aload_n hZ dX4_init_92 rfl ?_
  refine g_aload_n hZ dX4_init_93 rfl ?_
  refine g_putF (c := 39) (ci := 3) (kf := 1) (t := 19) (fs := [(0, 1, 1), (1, 4, 0), (2, 1, 40), (3, 1, 41), (4, 1, 42), (5, 1, 43), (6, 1, 44), (7, 1, 45), (8, 1, 46), (9, 1, 47), (10, 1, 48), (11, 0, 0), (12, 0, 0)]) hZ tyX4 tyX4_ok nmX4 dX4_init_94 rfl (by decide) iw_X4 wf_X4_51 rfl rfl hR.2.2.2 rfl ⟨rfl, rfl⟩ (by decide +kernel) (Nat.le_of_ble_eq_true rfl) ?_
  exact g_ret hZ hR dX4_init_97 rfl (Nat.le_of_ble_eq_true rfl) (Nat.le_of_ble_eq_true rfl) (by decide +kernel) rfl

set_option maxRecDepth 20000 in
set_option maxHeartbeats 4000000 in
theorem k_X3 {X : fX} {bs d : Nat} (hx : ∀ c, xa X c = bs + c) : gC X bs (d + 1) mX3_init [.ref (xa X 49)] gl_12 mV (gQ X bs gl_13 mW) 7 172 := by
  refine gC.of (L := [_]) hx (by decide +kernel) rfl (Nat.le_of_ble_eq_true rfl) (fun Z hZ hR => ?_)
  refine g_aload_n hZ dX3_init_0 rfl ?_
  refine g_obj hZ dX3_init_1 (tb_in 258 (by decide +kernel) (by decide +kernel)) (Nat.le_of_ble_eq_true rfl) ?_
  refine g_aload_n hZ dX3_init_4 rfl ?_
  refine g_iconst hZ dX3_init_5 ?_
  refine g_bipush hZ dX3_init_6 ?_
  refine g_mna (N := 4) (K := 40) (z := 50) hZ rfl rfl dX3_init_8 (tb_in 259 (by decide +kernel) (by decide +kernel)) (Nat.le_of_ble_eq_true rfl) (Nat.le_of_ble_eq_true rfl) ⟨(Nat.le_of_ble_eq_true rfl), (Nat.le_of_ble_eq_true rfl)⟩ (by decide +kernel) (fun j hj i => by rcases (show j = 0 ∨ j = 1 ∨ j = 2 ∨ j = 3 ∨ j = 4 by omega) with e | e | e | e | e <;> subst e <;> simp [mY, mW, mV, mU, mT, zM, up]) ?_
  refine g_putF (c := 49) (ci := 2) (kf := 0) (t := 50) (fs := [(0, 4, 0), (1, 4, 0), (2, 4, 0)]) hZ tyX3 tyX3_ok nmX3 dX3_init_12 rfl (by decide) iw_X3 wf_X3_11 rfl rfl hR.2.2.2 rfl ⟨rfl, rfl⟩ (by decide +kernel) (Nat.le_of_ble_eq_true rfl) ?_
  refine g_aload_n hZ dX3_init_15 rfl ?_
  refine g_iconst hZ dX3_init_16 ?_
  refine g_newI (N := 4) (z := 55) hZ rfl dX3_init_17 (Nat.le_of_ble_eq_true rfl) (Nat.le_of_ble_eq_true rfl) (Nat.le_of_ble_eq_true rfl) (by decide +kernel) (fun i => by simp [mY, mW, mV, mU, mT, zM, up]) ?_
  refine g_dup hZ dX3_init_19 rfl ?_
  refine g_iconst hZ dX3_init_20 ?_
  refine g_iconst hZ dX3_init_21 ?_
  refine g_iastore (c := 55) (N := 4) (fs := []) (M' := (up mV 55 0 (-1))) hZ dX3_init_22 (by decide +kernel) (by omega) (by omega) (by omega) rfl ?_
  refine g_dup hZ dX3_init_23 rfl ?_
  refine g_iconst hZ dX3_init_24 ?_
  refine g_iconst hZ dX3_init_25 ?_
  refine g_iastore (c := 55) (N := 4) (fs := []) (M' := (up (up mV 55 0 (-1)) 55 1 (-1))) hZ dX3_init_26 (by decide +kernel) (by omega) (by omega) (by omega) rfl ?_
  refine g_dup hZ dX3_init_27 rfl ?_
  refine g_iconst hZ dX3_init_28 ?_
  refine g_iconst hZ dX3_init_29 ?_
  refine g_iastore (c := 55) (N := 4) (fs := []) (M' := (up (up (up mV 55 0 (-1)) 55 1 (-1)) 55 2 (-1))) hZ dX3_init_30 (by decide +kernel) (by omega) (by omega) (by omega) rfl ?_
  refine g_dup hZ dX3_init_31 rfl ?_
  refine g_iconst hZ dX3_init_32 ?_
  refine g_iconst hZ dX3_init_33 ?_
  refine g_iastore (c := 55) (N := 4) (fs := []) (M' := mW) hZ dX3_init_34 (by decide +kernel) (by omega) (by omega) (by omega) rfl ?_
  refine g_putF (c := 49) (ci := 2) (kf := 1) (t := 55) (fs := [(0, 1, 50), (1, 4, 0), (2, 4, 0)]) hZ tyX3 tyX3_ok nmX3 dX3_init_35 rfl (by decide) iw_X3 wf_X3_16 rfl rfl hR.2.2.2 rfl ⟨rfl, rfl⟩ (by decide +kernel) (Nat.le_of_ble_eq_true rfl) ?_
  refine g_aload_n hZ dX3_init_38 rfl ?_
  refine g_iconst hZ dX3_init_39 ?_
  refine g_newI (N := 4) (z := 56) hZ rfl dX3_init_40 (Nat.le_of_ble_eq_true rfl) (Nat.le_of_ble_eq_true rfl) (Nat.le_of_ble_eq_true rfl) (by decide +kernel) (fun i => by simp [mY, mW, mV, mU, mT, zM, up]) ?_
  refine g_putF (c := 49) (ci := 2) (kf := 2) (t := 56) (fs := [(0, 1, 50), (1, 1, 55), (2, 4, 0)]) hZ tyX3 tyX3_ok nmX3 dX3_init_42 rfl (by decide) iw_X3 wf_X3_20 rfl rfl hR.2.2.2 rfl ⟨rfl, rfl⟩ (by decide +kernel) (Nat.le_of_ble_eq_true rfl) ?_
  exact g_ret hZ hR dX3_init_45 rfl (Nat.le_of_ble_eq_true rfl) (Nat.le_of_ble_eq_true rfl) (by decide +kernel) rfl

set_option maxRecDepth 20000 in
set_option maxHeartbeats 4000000 in
theorem k_X6 {X : fX} {bs d : Nat} (hx : ∀ c, xa X c = bs + c) : gC X bs (d + 3) mX6_init [.ref (xa X 0)] gl_14 zM (gQ X bs gl_15 mW) 58 2950 := by
  refine gC.of (L := [_]) hx (by decide +kernel) rfl (Nat.le_of_ble_eq_true rfl) (fun Z hZ hR => ?_)
  refine g_aload_n hZ dX6_init_0 rfl ?_
  refine g_obj hZ dX6_init_1 (tb_in 86 (by decide +kernel) (by decide +kernel)) (Nat.le_of_ble_eq_true rfl) ?_
  refine g_aload_n hZ dX6_init_4 rfl ?_
  refine g_new (ci := 0) (z := 1) (fs := [(0, 4, 0), (1, 4, 0), (2, 4, 0), (3, 4, 0), (4, 4, 0), (5, 0, 0), (6, 0, 0), (7, 0, 0), (8, 0, 0)]) hZ tyX0 tyX0_ok dX6_init_5 rfl iw_X0 (tb_in 89 (by decide +kernel) (by decide +kernel)) (tb_in 90 (by decide +kernel) (by decide +kernel)) (tb_in 68 (by decide +kernel) (by decide +kernel)) (by decide +kernel) (by decide +kernel) (Nat.le_of_ble_eq_true rfl) (Nat.le_of_ble_eq_true rfl) (by decide +kernel) (fun i => by simp [mY, mW, mV, mU, mT, zM, up]) ?_
  refine g_dup hZ dX6_init_8 rfl ?_
  refine g_toL (Ls' := gl_0) (by decide +kernel) ?_
  refine g_callN (c := 1) (na := 0) hZ dX6_init_9 (k_X0_1 hZ.x) okX0_init ⟨rfl, rfl⟩ ⟨hZ.N.1, tb_in 92 (by decide +kernel) (by decide +kernel), tb_in 68 (by decide +kernel) (by decide +kernel)⟩ (As := []) rfl rfl (Nat.le_of_ble_eq_true rfl) (Nat.le_of_ble_eq_true rfl) (Nat.le_of_ble_eq_true rfl) ?_
  refine g_putF (c := 0) (ci := 5) (kf := 0) (t := 1) (fs := [(0, 4, 0), (1, 4, 0), (2, 4, 0), (3, 4, 0), (4, 4, 0), (5, 4, 0), (6, 4, 0), (7, 4, 0), (8, 0, 0)]) hZ tyX6 tyX6_ok nmX6 dX6_init_12 rfl (by decide) iw_X6 wf_X6_10 rfl rfl hR.2.2.2 rfl ⟨rfl, rfl⟩ (by decide +kernel) (Nat.le_of_ble_eq_true rfl) ?_
  refine g_aload_n hZ dX6_init_15 rfl ?_
  refine g_new (ci := 0) (z := 7) (fs := [(0, 4, 0), (1, 4, 0), (2, 4, 0), (3, 4, 0), (4, 4, 0), (5, 0, 0), (6, 0, 0), (7, 0, 0), (8, 0, 0)]) hZ tyX0 tyX0_ok dX6_init_16 rfl iw_X0 (tb_in 89 (by decide +kernel) (by decide +kernel)) (tb_in 90 (by decide +kernel) (by decide +kernel)) (tb_in 68 (by decide +kernel) (by decide +kernel)) (by decide +kernel) (by decide +kernel) (Nat.le_of_ble_eq_true rfl) (Nat.le_of_ble_eq_true rfl) (by decide +kernel) (fun i => by simp [mY, mW, mV, mU, mT, zM, up]) ?_
  refine g_dup hZ dX6_init_19 rfl ?_
  refine g_toL (Ls' := gl_2) (by decide +kernel) ?_
  refine g_callN (c := 7) (na := 0) hZ dX6_init_20 (k_X0_2 hZ.x) okX0_init ⟨rfl, rfl⟩ ⟨hZ.N.1, tb_in 92 (by decide +kernel) (by decide +kernel), tb_in 68 (by decide +kernel) (by decide +kernel)⟩ (As := []) rfl rfl (Nat.le_of_ble_eq_true rfl) (Nat.le_of_ble_eq_true rfl) (Nat.le_of_ble_eq_true rfl) ?_
  refine g_putF (c := 0) (ci := 5) (kf := 1) (t := 7) (fs := [(0, 1, 1), (1, 4, 0), (2, 4, 0), (3, 4, 0), (4, 4, 0), (5, 4, 0), (6, 4, 0), (7, 4, 0), (8, 0, 0)]) hZ tyX6 tyX6_ok nmX6 dX6_init_23 rfl (by decide) iw_X6 wf_X6_16 rfl rfl hR.2.2.2 rfl ⟨rfl, rfl⟩ (by decide +kernel) (Nat.le_of_ble_eq_true rfl) ?_
  refine g_aload_n hZ dX6_init_26 rfl ?_
  refine g_new (ci := 0) (z := 13) (fs := [(0, 4, 0), (1, 4, 0), (2, 4, 0), (3, 4, 0), (4, 4, 0), (5, 0, 0), (6, 0, 0), (7, 0, 0), (8, 0, 0)]) hZ tyX0 tyX0_ok dX6_init_27 rfl iw_X0 (tb_in 89 (by decide +kernel) (by decide +kernel)) (tb_in 90 (by decide +kernel) (by decide +kernel)) (tb_in 68 (by decide +kernel) (by decide +kernel)) (by decide +kernel) (by decide +kernel) (Nat.le_of_ble_eq_true rfl) (Nat.le_of_ble_eq_true rfl) (by decide +kernel) (fun i => by simp [mY, mW, mV, mU, mT, zM, up]) ?_
  refine g_dup hZ dX6_init_30 rfl ?_
  refine g_toL (Ls' := gl_4) (by decide +kernel) ?_
  refine g_callN (c := 13) (na := 0) hZ dX6_init_31 (k_X0_3 hZ.x) okX0_init ⟨rfl, rfl⟩ ⟨hZ.N.1, tb_in 92 (by decide +kernel) (by decide +kernel), tb_in 68 (by decide +kernel) (by decide +kernel)⟩ (As := []) rfl rfl (Nat.le_of_ble_eq_true rfl) (Nat.le_of_ble_eq_true rfl) (Nat.le_of_ble_eq_true rfl) ?_
  refine g_putF (c := 0) (ci := 5) (kf := 2) (t := 13) (fs := [(0, 1, 1), (1, 1, 7), (2, 4, 0), (3, 4, 0), (4, 4, 0), (5, 4, 0), (6, 4, 0), (7, 4, 0), (8, 0, 0)]) hZ tyX6 tyX6_ok nmX6 dX6_init_34 rfl (by decide) iw_X6 wf_X6_19 rfl rfl hR.2.2.2 rfl ⟨rfl, rfl⟩ (by decide +kernel) (Nat.le_of_ble_eq_true rfl) ?_
  refine g_aload_n hZ dX6_init_37 rfl ?_
  refine g_new (ci := 4) (z := 19) (fs := [(0, 4, 0), (1, 4, 0), (2, 4, 0), (3, 4, 0), (4, 4, 0), (5, 4, 0), (6, 0, 0), (7, 0, 0)]) hZ tyX5 tyX5_ok dX6_init_38 rfl iw_X5 (tb_in 138 (by decide +kernel) (by decide +kernel)) (tb_in 139 (by decide +kernel) (by decide +kernel)) (tb_in 69 (by decide +kernel) (by decide +kernel)) (by decide +kernel) (by decide +kernel) (Nat.le_of_ble_eq_true rfl) (Nat.le_of_ble_eq_true rfl) (by decide +kernel) (fun i => by simp [mY, mW, mV, mU, mT, zM, up]) ?_
  refine g_dup hZ dX6_init_41 rfl ?_
  refine g_toL (Ls' := gl_8) (by decide +kernel) ?_
  refine g_callI (c := 19) (na := 0) hZ dX6_init_42 (k_X5 hZ.x) okX5_init ⟨rfl, rfl⟩ ⟨tb_in 140 (by decide +kernel) (by decide +kernel), tb_in 141 (by decide +kernel) (by decide +kernel), tb_in 69 (by decide +kernel) (by decide +kernel)⟩ (As := []) rfl rfl (Nat.le_of_ble_eq_true rfl) (Nat.le_of_ble_eq_true rfl) (Nat.le_of_ble_eq_true rfl) ?_
  refine g_putF (c := 0) (ci := 5) (kf := 3) (t := 19) (fs := [(0, 1, 1), (1, 1, 7), (2, 1, 13), (3, 4, 0), (4, 4, 0), (5, 4, 0), (6, 4, 0), (7, 4, 0), (8, 0, 0)]) hZ tyX6 tyX6_ok nmX6 dX6_init_45 rfl (by decide) iw_X6 wf_X6_25 rfl rfl hR.2.2.2 rfl ⟨rfl, rfl⟩ (by decide +kernel) (Nat.le_of_ble_eq_true rfl) ?_
  refine g_aload_n hZ dX6_init_48 rfl ?_
  refine g_new (ci := 3) (z := 39) (fs := [(0, 4, 0), (1, 4, 0), (2, 4, 0), (3, 4, 0), (4, 4, 0), (5, 4, 0), (6, 4, 0), (7, 4, 0), (8, 4, 0), (9, 4, 0), (10, 4, 0), (11, 0, 0), (12, 0, 0)]) hZ tyX4 tyX4_ok dX6_init_49 rfl iw_X4 (tb_in 207 (by decide +kernel) (by decide +kernel)) (tb_in 208 (by decide +kernel) (by decide +kernel)) (tb_in 71 (by decide +kernel) (by decide +kernel)) (by decide +kernel) (by decide +kernel) (Nat.le_of_ble_eq_true rfl) (Nat.le_of_ble_eq_true rfl) (by decide +kernel) (fun i => by simp [mY, mW, mV, mU, mT, zM, up]) ?_
  refine g_dup hZ dX6_init_52 rfl ?_
  refine g_aload_n hZ dX6_init_53 rfl ?_
  refine g_getR (c := 0) (ci := 5) (kf := 0) (t := 1) (fs := [(0, 1, 1), (1, 1, 7), (2, 1, 13), (3, 1, 19), (4, 4, 0), (5, 4, 0), (6, 4, 0), (7, 4, 0), (8, 0, 0)]) hZ dX6_init_54 rfl (by decide) iw_X6 wf_X6_10 (by decide +kernel) (by decide +kernel) ?_
  refine g_aload_n hZ dX6_init_57 rfl ?_
  refine g_getR (c := 0) (ci := 5) (kf := 3) (t := 19) (fs := [(0, 1, 1), (1, 1, 7), (2, 1, 13), (3, 1, 19), (4, 4, 0), (5, 4, 0), (6, 4, 0), (7, 4, 0), (8, 0, 0)]) hZ dX6_init_58 rfl (by decide) iw_X6 wf_X6_25 (by decide +kernel) (by decide +kernel) ?_
  refine g_toL (Ls' := gl_10) (by decide +kernel) ?_
  refine g_callI (c := 39) (na := 2) hZ dX6_init_61 (k_X4 hZ.x) okX4_init ⟨rfl, rfl⟩ ⟨tb_in 209 (by decide +kernel) (by decide +kernel), tb_in 210 (by decide +kernel) (by decide +kernel), tb_in 71 (by decide +kernel) (by decide +kernel)⟩ (As := [.ref (xa X 1), .ref (xa X 19)]) rfl rfl (Nat.le_of_ble_eq_true rfl) (Nat.le_of_ble_eq_true rfl) (Nat.le_of_ble_eq_true rfl) ?_
  refine g_putF (c := 0) (ci := 5) (kf := 4) (t := 39) (fs := [(0, 1, 1), (1, 1, 7), (2, 1, 13), (3, 1, 19), (4, 4, 0), (5, 4, 0), (6, 4, 0), (7, 4, 0), (8, 0, 0)]) hZ tyX6 tyX6_ok nmX6 dX6_init_64 rfl (by decide) iw_X6 wf_X6_34 rfl rfl hR.2.2.2 rfl ⟨rfl, rfl⟩ (by decide +kernel) (Nat.le_of_ble_eq_true rfl) ?_
  refine g_aload_n hZ dX6_init_67 rfl ?_
  refine g_new (ci := 2) (z := 49) (fs := [(0, 4, 0), (1, 4, 0), (2, 4, 0)]) hZ tyX3 tyX3_ok dX6_init_68 rfl iw_X3 (tb_in 253 (by decide +kernel) (by decide +kernel)) (tb_in 254 (by decide +kernel) (by decide +kernel)) (tb_in 72 (by decide +kernel) (by decide +kernel)) (by decide +kernel) (by decide +kernel) (Nat.le_of_ble_eq_true rfl) (Nat.le_of_ble_eq_true rfl) (by decide +kernel) (fun i => by simp [mY, mW, mV, mU, mT, zM, up]) ?_
  refine g_dup hZ dX6_init_71 rfl ?_
  refine g_toL (Ls' := gl_12) (by decide +kernel) ?_
  refine g_callN (c := 49) (na := 0) hZ dX6_init_72 (k_X3 hZ.x) okX3_init ⟨rfl, rfl⟩ ⟨hZ.N.2.1, tb_in 256 (by decide +kernel) (by decide +kernel), tb_in 72 (by decide +kernel) (by decide +kernel)⟩ (As := []) rfl rfl (Nat.le_of_ble_eq_true rfl) (Nat.le_of_ble_eq_true rfl) (Nat.le_of_ble_eq_true rfl) ?_
  refine g_putF (c := 0) (ci := 5) (kf := 5) (t := 49) (fs := [(0, 1, 1), (1, 1, 7), (2, 1, 13), (3, 1, 19), (4, 1, 39), (5, 4, 0), (6, 4, 0), (7, 4, 0), (8, 0, 0)]) hZ tyX6 tyX6_ok nmX6 dX6_init_75 rfl (by decide) iw_X6 wf_X6_41 rfl rfl hR.2.2.2 rfl ⟨rfl, rfl⟩ (by decide +kernel) (Nat.le_of_ble_eq_true rfl) ?_
  refine g_aload_n hZ dX6_init_78 rfl ?_
  refine g_bipush hZ dX6_init_79 ?_
  refine g_newI (N := 13) (z := 57) hZ rfl dX6_init_81 (Nat.le_of_ble_eq_true rfl) (Nat.le_of_ble_eq_true rfl) (Nat.le_of_ble_eq_true rfl) (by decide +kernel) (fun i => by simp [mY, mW, mV, mU, mT, zM, up]) ?_
  refine g_putF (c := 0) (ci := 5) (kf := 6) (t := 57) (fs := [(0, 1, 1), (1, 1, 7), (2, 1, 13), (3, 1, 19), (4, 1, 39), (5, 1, 49), (6, 4, 0), (7, 4, 0), (8, 0, 0)]) hZ tyX6 tyX6_ok nmX6 dX6_init_83 rfl (by decide) iw_X6 wf_X6_45 rfl rfl hR.2.2.2 rfl ⟨rfl, rfl⟩ (by decide +kernel) (Nat.le_of_ble_eq_true rfl) ?_
  refine g_aload_n hZ dX6_init_86 rfl ?_
  refine g_bipush hZ dX6_init_87 ?_
  refine g_newI (N := 13) (z := 58) hZ rfl dX6_init_89 (Nat.le_of_ble_eq_true rfl) (Nat.le_of_ble_eq_true rfl) (Nat.le_of_ble_eq_true rfl) (by decide +kernel) (fun i => by simp [mY, mW, mV, mU, mT, zM, up]) ?_
  refine g_putF (c := 0) (ci := 5) (kf := 7) (t := 58) (fs := [(0, 1, 1), (1, 1, 7), (2, 1, 13), (3, 1, 19), (4, 1, 39), (5, 1, 49), (6, 1, 57), (7, 4, 0), (8, 0, 0)]) hZ tyX6 tyX6_ok nmX6 dX6_init_91 rfl (by decide) iw_X6 wf_X6_49 rfl rfl hR.2.2.2 rfl ⟨rfl, rfl⟩ (by decide +kernel) (Nat.le_of_ble_eq_true rfl) ?_
  refine g_aload_n hZ dX6_init_94 rfl ?_
  refine g_iconst hZ dX6_init_95 ?_
  refine g_put (c := 0) (ci := 5) (kf := 8) (kd := 0) (v := 0) (M' := mW) (fs := [(0, 1, 1), (1, 1, 7), (2, 1, 13), (3, 1, 19), (4, 1, 39), (5, 1, 49), (6, 1, 57), (7, 1, 58), (8, 0, 0)]) (fs' := [(0, 1, 1), (1, 1, 7), (2, 1, 13), (3, 1, 19), (4, 1, 39), (5, 1, 49), (6, 1, 57), (7, 1, 58), (8, 0, 0)]) hZ tyX6 tyX6_ok nmX6 dX6_init_96 rfl (by decide) iw_X6 wf_X6_52 rfl ⟨by decide, by decide⟩ (by decide +kernel) (Nat.le_of_ble_eq_true rfl) (by decide +kernel) (by decide +kernel) (by decide +kernel) rfl (by decide) (up_z (by decide +kernel)) ?_
  exact g_ret hZ hR dX6_init_99 rfl (Nat.le_of_ble_eq_true rfl) (Nat.le_of_ble_eq_true rfl) (by decide +kernel) rfl

