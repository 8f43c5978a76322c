"""A second decompiler, written by itself from DOC.md: everything is looked for in the plainest way, speed is no aim."""
import sys
from itertools import combinations
NONE = -1
HIDDEN = -1000000
NSE = -777
BIN = '+-*/%<='


def wrap(v):
    v &= 4294967295
    return v - (1 << 32) if v >> 31 else v


def parse(bs):
    """Sign by sign: (fault, instructions, handlers)."""
    ins = []
    hs = []
    state = 'I'
    cur = None
    val = None
    lim = 0
    hn = []

    def closenum():
        nonlocal state, val
        if cur == 'h':
            hn.append(val)
            if len(hn) == 3:
                hs.append(tuple(hn))
                state = 'I'
            else:
                state = 'C'
        else:
            ins.append((cur, val))
            state = 'I'
    i = 0
    while i < len(bs):
        c = chr(bs[i])
        if state == 'n':
            if c.isdigit() and c in '0123456789':
                val = val * 10 + int(c)
                if val > lim:
                    return (i, None, None)
                i += 1
                continue
            closenum()
        if c == ' ':
            i += 1
            continue
        if state == 'I':
            if c == 'h':
                if not ins or len(hs) == 3:
                    return (i, None, None)
                cur = 'h'
                hn = []
                state = 'N'
                lim = 40
            elif hs:
                return (i, None, None)
            else:
                if len(ins) == 40:
                    return (i, None, None)
                if c in BIN + '!ndpwiotr':
                    ins.append((c, 0))
                elif c == 'k':
                    cur = c
                    state = 'N'
                    lim = 999
                elif c in 'gz':
                    cur = c
                    state = 'N'
                    lim = 39
                elif c in 'ls':
                    cur = c
                    state = 'L'
                else:
                    return (i, None, None)
        elif state == 'N':
            if c in '0123456789':
                val = int(c)
                state = 'n'
            else:
                return (i, None, None)
        elif state == 'L':
            if c in 'abcdef':
                ins.append((cur, ord(c) - 97))
                state = 'I'
            else:
                return (i, None, None)
        elif state == 'C':
            if c != ',':
                return (i, None, None)
            state = 'N'
        i += 1
    if state == 'n':
        closenum()
    if state != 'I' or not ins:
        return (len(bs), None, None)
    return (NONE, ins, hs)
POP = {'k': 0, 'l': 0, 'i': 0, 'g': 0, 'r': 0, 's': 1, '!': 1, 'n': 1, 'd': 1, 'p': 1, 'o': 1, 'z': 1, 't': 1, 'w': 2}
PUSH = {'k': 1, 'l': 1, 'i': 1, 'g': 0, 'r': 0, 's': 0, '!': 1, 'n': 1, 'd': 2, 'p': 0, 'o': 0, 'z': 0, 't': 0, 'w': 2}
for c in BIN:
    POP[c] = 2
    PUSH[c] = 1


class Code:
    pass


def handler_of(hs, i):
    for h, (f, t, a) in enumerate(hs):
        if f <= i < t:
            return h
    return NONE


def judge(ins, hs):
    n = len(ins)
    for c, v in ins:
        if c in 'gz' and v >= n:
            return (-2, None)
    for f, t, a in hs:
        if f >= t or t > n or a >= n:
            return (-2, None)
    dep = {0: 0}
    todo = {0}
    while todo:
        i = min(todo)
        todo.remove(i)
        c, v = ins[i]
        if dep[i] < POP[c]:
            return (-4, None)
        d = dep[i] - POP[c] + PUSH[c]
        if d > 6:
            return (-5, None)
        outs = []
        if c not in 'gtr':
            if i + 1 >= n:
                return (-3, None)
            outs.append((i + 1, d))
        if c in 'gz':
            outs.append((v, d))
        if c in '/%t':
            h = handler_of(hs, i)
            if h != NONE:
                outs.append((hs[h][2], 1))
        for j, e in outs:
            if j in dep:
                if dep[j] != e:
                    return (-6, None)
            else:
                dep[j] = e
                todo.add(j)
    return (0, dep)


def reach(start, edges, without=None):
    if start == without:
        return set()
    seen = {start}
    st = [start]
    while st:
        u = st.pop()
        for a, b in edges:
            if a == u and b != without and (b not in seen):
                seen.add(b)
                st.append(b)
    return seen


def doms(nb, edges):
    full = reach(0, edges)
    D = [set() for _ in range(nb)]
    for b in full:
        for a in full:
            if a == b or b not in reach(0, edges, a):
                D[b].add(a)
    return (D, full)


def acyclic(nb, edges):
    edges = list(edges)
    nodes = set(range(nb))
    while nodes:
        free = [x for x in nodes if not any((b == x and a in nodes for a, b in edges))]
        if not free:
            return False
        nodes -= set(free)
    return True


def isreduced(nb, edges):
    full = reach(0, edges)
    if len(full) < nb:
        return False
    D, _ = doms(nb, edges)
    return acyclic(nb, [(a, b) for a, b in edges if b not in D[a]])


def expr_effects(e):
    return e[0] in ('i', '/', '%') or any((expr_effects(x) for x in e[1:] if isinstance(x, tuple)))


def has_name(e, nm):
    return e == nm or any((has_name(x, nm) for x in e[1:] if isinstance(x, tuple)))


def isname(e):
    return e[0] in ('V', 'T', 'X')


def parts(e):
    return 1 + sum((parts(x) for x in e[1:] if isinstance(x, tuple)))


def subs(e, acc):
    acc.add(e)
    for x in e[1:]:
        if isinstance(x, tuple):
            subs(x, acc)


def repl(e, nm, by):
    if e == nm:
        return by
    return tuple((repl(x, nm, by) if isinstance(x, tuple) else x for x in e))


def spell(e):
    c = e[0]
    if c == 'k':
        return str(e[1])
    if c == 'V':
        return 'abcdef'[e[1]]
    if c == 'T':
        return 't%d' % e[1]
    if c == 'X':
        return 'x%d' % e[1]
    if c == 'i':
        return 'in'
    if c == '!':
        return '!' + spell(e[1])
    if c == 'n':
        return '-' + spell(e[1])
    return '(' + spell(e[1]) + c + spell(e[2]) + ')'


def build(ins, hs, dep):
    C = Code()
    C.ins = ins
    C.hs = hs
    C.dep = dep
    n = len(ins)
    cuts = set()
    for i in dep:
        c, v = ins[i]
        if c in 'gz':
            cuts |= {v}
        if c in 'gztr':
            cuts.add(i + 1)
    for h in hs:
        cuts |= set(h)
    starts = sorted((i for i in dep if i == 0 or i in cuts or i - 1 not in dep))
    C.first = starts
    C.nb = len(starts)
    C.of = {}
    b = -1
    for i in range(n):
        if i in starts:
            b += 1
        if i in dep:
            C.of[i] = b
    C.last = [max((i for i in C.of if C.of[i] == b)) for b in range(C.nb)]
    C.edges = []
    C.thr = []
    C.onward = [NONE] * C.nb
    C.other = [NONE] * C.nb
    C.catch = [NONE] * C.nb
    for b in range(C.nb):
        l = C.last[b]
        c, v = ins[l]
        tg = []
        if c not in 'gtr':
            tg.append(C.of[l + 1])
        if c in 'gz':
            tg.append(C.of[v])
        if c in 'z':
            C.onward[b] = C.of[l + 1]
            if C.of[v] != C.of[l + 1]:
                C.other[b] = C.of[v]
        elif c == 'g':
            C.onward[b] = C.of[v]
        elif c not in 'tr':
            C.onward[b] = C.of[l + 1]
        for i in range(C.first[b], l + 1):
            if ins[i][0] in '/%t' and handler_of(hs, i) != NONE:
                C.catch[b] = C.of[hs[handler_of(hs, i)][2]]
        seen = []
        for t in tg + ([C.catch[b]] if C.catch[b] != NONE else []):
            if t not in seen:
                seen.append(t)
        for t in seen:
            C.edges.append((b, t))
            C.thr.append(t == C.catch[b])
    E = C.edges
    C.reduced = isreduced(C.nb, E)
    C.jumps = set()
    C.tangled = False
    if not C.reduced:
        cand = [k for k in range(len(E)) if not C.thr[k]]
        done = False
        for r in (1, 2):
            for S in combinations(cand, r):
                kept = [E[k] for k in range(len(E)) if k not in S]
                if len(reach(0, kept)) < C.nb:
                    continue
                if isreduced(C.nb, kept):
                    C.jumps = set(S)
                    done = True
                    break
            if done:
                break
        if not done:
            C.tangled = True
    kept = [E[k] for k in range(len(E)) if k not in C.jumps]
    C.D, _ = doms(C.nb, kept)
    seen = set()
    post = []

    def dfs(u):
        seen.add(u)
        for a, b2 in kept:
            if a == u and b2 not in seen:
                dfs(b2)
        post.append(u)
    sys.setrecursionlimit(10000)
    dfs(0)
    C.order = post[::-1]
    C.above = [NONE] * C.nb
    for b in range(C.nb):
        st = C.D[b] - {b}
        for a in st:
            if all((x in C.D[a] for x in st)):
                C.above[b] = a
    C.back = [E[k][1] in C.D[E[k][0]] for k in range(len(E))]
    C.loops = {}
    for k, (a, h) in enumerate(E):
        if k in C.jumps or not C.back[k]:
            continue
        mem = {h}
        for x in range(C.nb):
            if x != h and a in reach(x, kept, h):
                mem.add(x)
        C.loops.setdefault(h, set()).update(mem)
    C.merges = set()
    for b in range(C.nb):
        k = [q for q in range(len(E)) if E[q][1] == b and q not in C.jumps and (not C.back[q])]
        if len(k) >= 2 or any((E[q][1] == b and C.thr[q] for q in range(len(E)))):
            C.merges.add(b)
    C.st = []
    C.test = [None] * C.nb
    C.nx = 0
    for b in range(C.nb):
        C.st.append(lift(C, b))
    C.nt = 0
    for b in range(C.nb):
        f, l = (C.first[b], C.last[b])
        C.nt = max(C.nt, dep[f], dep[l] - POP[ins[l][0]] + PUSH[ins[l][0]])
    truths(C)
    live(C)
    if not C.tangled:
        lines(C)
    return C


def lift(C, b):
    out = []
    st = [('T', k) for k in range(C.dep[C.first[b]])]

    def fresh(e):
        x = ('X', C.nx)
        C.nx += 1
        out.append((2, x[1], e))
        return x

    def ahead(items, var=None):
        for k in range(len(items)):
            if expr_effects(items[k]) or (var is not None and has_name(items[k], var)):
                items[k] = fresh(items[k])
    z = None
    ended = False

    def aspop():
        e = st.pop()
        if expr_effects(e):
            ahead(st)
            out.append((4, NONE, e))
    for i in range(C.first[b], C.last[b] + 1):
        c, v = C.ins[i]
        if c == 'k':
            st.append(('k', v))
        elif c == 'l':
            st.append(('V', v))
        elif c == 'i':
            st.append(('i',))
        elif c == 's':
            e = st.pop()
            ahead(st, ('V', v))
            out.append((0, v, e))
        elif c == 'o':
            e = st.pop()
            ahead(st)
            out.append((3, NONE, e))
        elif c == 't':
            e = st.pop()
            ahead(st)
            out.append((5, NONE, e))
            ended = True
        elif c == 'r':
            ahead(st)
            out.append((6, NONE, None))
            ended = True
        elif c == 'p':
            aspop()
        elif c == 'd':
            e = st[-1]
            if not (e[0] == 'k' or isname(e)):
                st.pop()
                ahead(st)
                e = fresh(e)
                st.append(e)
            st.append(e)
        elif c == 'w':
            if expr_effects(st[-1]) and expr_effects(st[-2]):
                low = st[:-1]
                ahead(low)
                st[:-1] = low
            st[-1], st[-2] = (st[-2], st[-1])
        elif c == 'z':
            if C.of[v] == C.of[i + 1]:
                aspop()
            else:
                z = st.pop()
        elif c == 'g':
            pass
        elif c in '!n':
            st.append((c, st.pop()))
        else:
            r = st.pop()
            l = st.pop()
            st.append((c, l, r))
    if not ended:
        for k in range(len(st)):
            t = ('T', k)
            if st[k] != t:
                if any((has_name(x, t) for x in st[k + 1:])) or (z is not None and has_name(z, t)):
                    x = fresh(t)
                    for j in range(k + 1, len(st)):
                        st[j] = repl(st[j], t, x)
                    if z is not None:
                        z = repl(z, t, x)
                out.append((1, k, st[k]))
        if z is not None and expr_effects(z):
            z = fresh(z)
    C.test[b] = z
    return out


def truths(C):
    T = {('V', v) for v in range(2, 6)} | {('T', k) for k in range(10)} | {('X', k) for k in range(C.nx)}
    if any(C.thr):
        T.discard(('T', 0))
    while True:
        bad = set()
        for s in sum(C.st, []):
            if s[0] <= 2:
                nm = ('VTX'[s[0]], s[1])
                e = s[2]
                ok = e in (('k', 0), ('k', 1)) or e[0] in '<=!' or e in T
                if nm in T and (not ok):
                    bad.add(nm)
        if not bad:
            break
        T -= bad
    C.truth = T


def live(C):

    def islive(v, start):
        seen = set()
        todo = [start]
        while todo:
            p = todo.pop()
            if p in seen:
                continue
            seen.add(p)
            kind, b, i = p
            if C.catch[b] != NONE:
                h = C.catch[b]
                todo.append(('p', h, C.first[h]))
            if i > C.last[b]:
                for a, t in C.edges:
                    if a == b:
                        todo.append(('p', t, C.first[t]))
                continue
            c, x = C.ins[i]
            if c == 'l' and x == v:
                return True
            if c == 's' and x == v:
                continue_after = False
                continue
            todo.append(('p', b, i + 1))
        return False
    C.lin = [sum((1 << v for v in range(6) if islive(v, ('p', b, C.first[b])))) for b in range(C.nb)]
    C.lout = []
    for b in range(C.nb):
        m = 0
        for a, t in C.edges:
            if a == b:
                m |= C.lin[t]
        C.lout.append(m)
    C.dead = set()
    for i in C.of:
        c, x = C.ins[i]
        if c == 's' and (not islive(x, ('p', C.of[i], i + 1))):
            C.dead.add(i)


def lines(C):
    pos = {b: k for k, b in enumerate(C.order)}
    L = []

    def edge(a, b):
        return C.edges.index((a, b))
    uid = [0]

    def go(b, c, d):
        k = edge(b, c)
        if k in C.jumps:
            return [('goto', c, d)]
        if C.back[k]:
            return [('continue', c, d)]
        if c in C.merges:
            return [('break', c, d)]
        return tell(c, d)

    def body(b, d):
        r = [('label', b, d)]
        if C.catch[b] != NONE:
            r.append(('try', b, d))
            for s in C.st[b]:
                r.append(('st', b, d + 1, s))
            r.append(('catch', C.catch[b], d, b))
        else:
            for s in C.st[b]:
                r.append(('st', b, d, s))
        if C.test[b] is not None:
            r.append(('if', b, d))
            r += go(b, C.onward[b], d + 1)
            r.append(('else', b, d))
            r += go(b, C.other[b], d + 1)
            r.append(('}if', b, d))
        elif C.onward[b] != NONE:
            r += go(b, C.onward[b], d)
        return r

    def tell(b, d):
        r = []
        if b in C.loops:
            r.append(('loop', b, d))
            d += 1
        ms = sorted([m for m in C.merges if C.above[m] == b], key=lambda m: -pos[m])

        def wrapm(k, d):
            if k == len(ms):
                return body(b, d)
            m = ms[k]
            return [('block', m, d)] + wrapm(k + 1, d + 1) + [('}block', m, d)] + tell(m, d)
        r += wrapm(0, d)
        if b in C.loops:
            r.append(('}loop', b, d - 1))
        return r
    L = tell(0, 0)

    def closer_of_else(i):
        n = 0
        for j in range(i + 1, len(L)):
            if L[j][0] == 'if':
                n += 1
            if L[j][0] == '}if':
                if n == 0:
                    return j
                n -= 1
    drop = set()
    for i, l in enumerate(L):
        if l[0] != 'break':
            continue
        j = i + 1
        while j < len(L):
            k = L[j][0]
            if k == 'else':
                j = closer_of_else(j) + 1
                continue
            if k == '}block' and L[j][1] == l[1]:
                drop.add(i)
                break
            if k[0] == '}':
                j += 1
                continue
            break
    for i, l in enumerate(L):
        if l[0] == 'else' and all((j in drop for j in range(i + 1, closer_of_else(i)))):
            drop.add(i)
    L = [l for i, l in enumerate(L) if i not in drop]
    C.lines = L
    C.lk = []
    C.ltext = []
    K = {'st': 0, 'loop': 1, 'block': 2, 'if': 3, 'else': 4, '}if': 5, '}block': 5, '}loop': 5, 'break': 6, 'continue': 7, 'goto': 8, 'try': 9, 'catch': 10, 'label': 11}
    for l in L:
        C.lk.append(K[l[0]])
        k = l[0]
        b = l[1]
        if k == 'st':
            t = ststr(l[3])
        elif k in ('loop', 'block'):
            t = '%s B%d{' % (k, b)
        elif k == 'if':
            t = 'if %s{' % spell(C.test[b])
        elif k == 'else':
            t = 'else{'
        elif k[0] == '}':
            t = '}'
        elif k in ('break', 'continue', 'goto'):
            t = '%s B%d;' % (k, b)
        elif k == 'try':
            t = 'try{'
        elif k == 'catch':
            t = '}catch B%d;' % b
        else:
            t = 'B%d:' % b
        C.ltext.append(t)


def ststr(s):
    k, w, e = s
    return ['%s=', 't%d=', 'x%d=', 'out ', '', 'throw ', 'return'][k] % (() if k > 2 else ('abcdef'[w] if k == 0 else w,)) + (spell(e) if e else '') + ';'


def arith(c, l, r):
    if c == '+':
        return wrap(l + r)
    if c == '-':
        return wrap(l - r)
    if c == '*':
        return wrap(l * r)
    if c == '<':
        return int(l < r)
    if c == '=':
        return int(l == r)
    q = abs(l) // abs(r)
    if (l < 0) != (r < 0):
        q = -q
    if c == '/':
        return wrap(q)
    return wrap(l - q * r)


class Thrown(Exception):
    pass


class Run:

    def __init__(s, a, b, seed, limit):
        s.v = [a, b, 0, 0, 0, 0]
        s.seed = seed
        s.limit = limit
        s.out = []
        s.end = 0
        s.thrown = 0
        s.inp = 0
        s.ent = 0

    def draw(s):
        s.seed = wrap(s.seed * 1103515245 + 12345)
        s.inp += 1
        return (s.seed >> 16 & 32767) % 5

    def enter(s):
        if s.ent == s.limit:
            s.end = 2
            return False
        s.ent += 1
        return True

    def result(s, w):
        if w == 0:
            return len(s.out)
        if w == 1:
            return s.end
        if w == 2:
            return s.thrown
        if w == 3:
            return s.inp
        if w == 4:
            return s.ent
        if 5 <= w <= 10:
            return s.v[w - 5]
        h = 0
        for x in s.out:
            h = wrap(31 * h + x)
        return h


def runcode(C, a, b, seed, limit):
    R = Run(a, b, seed, limit)
    pc = 0
    st = []
    while True:
        if pc in C.first and (not R.enter()):
            return R
        c, v = C.ins[pc]
        nx = pc + 1
        try:
            if c == 'k':
                st.append(v)
            elif c == 'l':
                st.append(R.v[v])
            elif c == 's':
                R.v[v] = st.pop()
            elif c == 'i':
                st.append(R.draw())
            elif c == 'o':
                R.out.append(st.pop())
            elif c == 'p':
                st.pop()
            elif c == 'd':
                st.append(st[-1])
            elif c == 'w':
                st[-1], st[-2] = (st[-2], st[-1])
            elif c == '!':
                st.append(int(st.pop() == 0))
            elif c == 'n':
                st.append(wrap(-st.pop()))
            elif c == 'g':
                nx = v
            elif c == 'z':
                if st.pop() == 0:
                    nx = v
            elif c == 'r':
                return R
            elif c == 't':
                raise Thrown(st.pop())
            else:
                r = st.pop()
                l = st.pop()
                if c in '/%' and r == 0:
                    raise Thrown(99)
                st.append(arith(c, l, r))
        except Thrown as t:
            h = handler_of(C.hs, pc)
            if h == NONE:
                R.end = 1
                R.thrown = t.args[0]
                return R
            st = [t.args[0]]
            nx = C.hs[h][2]
        pc = nx


def runlines(C, a, b, seed, limit):
    R = Run(a, b, seed, limit)
    L = C.lines
    T = {}
    X = {}
    st = []
    close = {}
    openof = {}
    elseof = {}
    for i, l in enumerate(L):
        k = l[0]
        if k in ('loop', 'block', 'if', 'try'):
            st.append(i)
        elif k == 'else':
            j = st.pop()
            elseof[j] = i
            st.append(i)
        elif k[0] == '}' or k == 'catch':
            j = st.pop()
            close[j] = i
            openof[i] = j

    def ev(e):
        c = e[0]
        if c == 'k':
            return e[1]
        if c == 'V':
            return R.v[e[1]]
        if c == 'T':
            return T[e[1]]
        if c == 'X':
            return X[e[1]]
        if c == 'i':
            return R.draw()
        if c == '!':
            return int(ev(e[1]) == 0)
        if c == 'n':
            return wrap(-ev(e[1]))
        l = ev(e[1])
        r = ev(e[2])
        if c in '/%' and r == 0:
            raise Thrown(99)
        return arith(c, l, r)

    def brk(i, c):
        for j in range(i, -1, -1):
            if L[j][0] == 'block' and L[j][1] == c and (j < i < close[j]):
                return close[j] + 1
        raise AssertionError('no block')

    def cont(i, c):
        for j in range(i, -1, -1):
            if L[j][0] == 'loop' and L[j][1] == c and (j < i < close[j]):
                return j
        raise AssertionError('no loop')
    pc = 0
    while True:
        assert pc < len(L)
        l = L[pc]
        k = l[0]
        if k == 'label':
            if not R.enter():
                return R
            pc += 1
        elif k == 'st':
            s = l[3]
            try:
                if s[0] == 6:
                    return R
                x = ev(s[2])
                if s[0] == 5:
                    raise Thrown(x)
                if s[0] == 0:
                    R.v[s[1]] = x
                elif s[0] == 1:
                    T[s[1]] = x
                elif s[0] == 2:
                    X[s[1]] = x
                elif s[0] == 3:
                    R.out.append(x)
                pc += 1
            except Thrown as t:
                b = l[1]
                if C.catch[b] == NONE:
                    R.end = 1
                    R.thrown = t.args[0]
                    return R
                T[0] = t.args[0]
                h = C.catch[b]
                pc = cont(pc, h) if C.back[C.edges.index((b, h))] else brk(pc, h)
        elif k == 'if':
            if ev(C.test[l[1]]) != 0:
                pc += 1
            elif pc in elseof:
                pc = elseof[pc] + 1
            else:
                pc = close[pc] + 1
        elif k == 'else':
            pc = close[pc] + 1
        elif k == 'break':
            pc = brk(pc, l[1])
        elif k == 'continue':
            pc = cont(pc, l[1])
        elif k == 'goto':
            pc = [i for i, q in enumerate(L) if q[0] == 'label' and q[1] == l[1]][0]
        else:
            pc += 1


class Obj:

    def __init__(s):
        s.C = None
        s.tape = 0

    def text(s, bs):
        out = []
        n = 0
        for i in range(0, len(bs), 20):
            m = n + len([x for x in bs[i:i + 20] if x])
            if m > 240:
                out.append('f -1')
            else:
                n = m
                out.append('f %d' % n)
        assert n == len(bs) or n <= 240
        bs = bs[:n]
        f, ins, hs = parse(bs)
        out.append('fault %d' % f)
        s.tape = n
        if f != NONE:
            r = NONE
        else:
            r, dep = judge(ins, hs)
            if r == 0:
                s.C = build(ins, hs, dep)
                r = s.C.nb
                s.tape = 0
        out.append('code %d %d' % (r, s.tape))
        return out

    def put(s, i, sg, num):
        C = s.C
        if C is None or not 0 <= i < len(C.ins):
            return NONE
        c = chr(sg) if 0 <= sg < 256 else '?'
        if c not in POP:
            return NONE
        lim = {'k': 999, 'l': 5, 's': 5, 'g': 39, 'z': 39}.get(c, 0)
        if not 0 <= num <= lim:
            return NONE
        ins = list(C.ins)
        ins[i] = (c, num)
        r, dep = judge(ins, C.hs)
        if r:
            return r
        s.C = build(ins, C.hs, dep)
        return s.C.nb

    def count(s, w):
        if w == 12:
            return s.tape
        C = s.C
        if C is None:
            return HIDDEN
        if w == 13:
            acc = set()
            for q in sum(C.st, []):
                if q[2]:
                    subs(q[2], acc)
            for z in C.test:
                if z:
                    subs(z, acc)
            return len([e for e in acc if not isname(e)])
        t = {0: len(C.ins), 1: C.nb, 2: len(C.edges), 3: len(C.hs), 4: len(C.loops), 5: len(C.merges), 6: NONE if C.tangled else len(C.jumps), 7: int(C.reduced), 8: NONE if C.tangled else len(C.lines), 9: sum(map(len, C.st)), 10: C.nx, 11: C.nt, 14: len(C.dead)}
        return t.get(w, HIDDEN)

    def ins(s, i, w):
        C = s.C
        if C is None or not 0 <= i < len(C.ins) or (not 0 <= w <= 5):
            return NSE
        return [ord(C.ins[i][0]), C.ins[i][1], C.dep.get(i, NONE), C.of.get(i, NONE), handler_of(C.hs, i), int(i in C.dead)][w]

    def blk(s, b, w):
        C = s.C
        if C is None or not 0 <= b < C.nb or (not 0 <= w <= 12):
            return NSE
        mine = [h for h in sorted(C.loops) if b in C.loops[h]]
        return [C.first[b], C.last[b], C.dep[C.first[b]], C.order.index(b), C.above[b], min(mine, key=lambda h: (len(C.loops[h]), h)) if mine else NONE, len(mine), int(b in C.merges), int(b in C.loops), len(C.st[b]), C.lin[b], C.lout[b], C.catch[b]][w]

    def dump(s):
        o = []
        C = s.C
        o.append('count ' + ' '.join((str(s.count(w)) for w in range(-1, 17))))
        n = max(0, s.count(0))
        nb = max(0, s.count(1))
        ne = max(0, s.count(2))
        nl = max(0, s.count(8))
        for i in range(-1, n + 1):
            o.append('ins %d ' % i + ' '.join((str(s.ins(i, w)) for w in range(-1, 7))))
        for i in range(-1, nb + 1):
            ok = C is not None and 0 <= i < nb
            loop = sum((1 << x for x in C.loops[i])) if ok and i in C.loops else NONE
            if ok:
                ct = sum((1 << x for x in range(nb) if any((i in reach(t, C.edges) for a, t in C.edges if a == x))))
            else:
                ct = NONE
            dm = [int(ok and 0 <= j < nb and (i in C.D[j])) for j in range(-1, nb + 1)]
            far = []
            for j in range(-1, nb + 1):
                if not (ok and 0 <= j < nb):
                    far.append(NONE)
                    continue
                layer = {i}
                seen = {i}
                d = 0
                r = NONE
                while layer:
                    if j in layer:
                        r = d
                        break
                    layer = {t for a, t in C.edges if a in layer} - seen
                    seen |= layer
                    d += 1
                far.append(r)
            o.append('blk %d ' % i + ' '.join((str(s.blk(i, w)) for w in range(-1, 14))) + ' loop %d ct %d dom ' % (loop, ct) + ' '.join(map(str, dm)) + ' far ' + ' '.join(map(str, far)))
            c = spell(C.test[i]) if ok and C.test[i] else None
            o.append('cond %d %s -1 -1' % (len(c) if c else -1, c or ''))
            ns = len(C.st[i]) if ok else 0
            for k in range(-1, ns + 1):
                if ok and 0 <= k < ns:
                    q = C.st[i][k]
                    e = q[2]
                    v = [HIDDEN, q[0], q[1], len(spell(e)) if e else 0, int(bool(e) and expr_effects(e)), parts(e) if e else 0, HIDDEN]
                else:
                    v = [HIDDEN] * 7
                o.append('st %d %d ' % (i, k) + ' '.join(map(str, v)))
        for i in range(-1, ne + 1):
            if 0 <= i < ne:
                v = [HIDDEN, C.edges[i][0], C.edges[i][1], int(C.back[i]), int(i in C.jumps), int(C.thr[i]), HIDDEN]
            else:
                v = [HIDDEN] * 7
            o.append('edge %d ' % i + ' '.join(map(str, v)))
        for i in range(-1, nl + 1):
            if 0 <= i < nl:
                v = [HIDDEN, C.lk[i], C.lines[i][1], C.lines[i][2], HIDDEN]
                t = C.ltext[i]
                tl = len(t)
            else:
                v = [HIDDEN] * 5
                t = ''
                tl = -1
            o.append('line %d ' % i + ' '.join(map(str, v)) + ' %d %s -1 -1' % (tl, t))
        for sort in range(-1, 4):
            v = []
            for k in range(-1, 12):
                if C is None or k < 0 or (not 0 <= sort <= 2) or (k >= [6, C.nt, C.nx][sort]):
                    v.append(NONE)
                else:
                    v.append(int(('VTX'[sort], k) in C.truth))
            o.append('type %d ' % sort + ' '.join(map(str, v)))
        v = []
        for w in range(-1, 9):
            if C is None or not 0 <= w <= 7:
                v.append(HIDDEN)
            elif w == 0:
                v.append(max((s.blk(b, 6) for b in range(nb))))
            elif w == 1:
                v.append(NONE if C.tangled else max((l[2] for l in C.lines)))
            elif w == 2:
                v.append(NONE if C.tangled else C.lk.count(6))
            elif w == 3:
                v.append(NONE if C.tangled else C.lk.count(7))
            elif w == 4:
                v.append(max([parts(q[2]) for q in sum(C.st, []) if q[2]] or [0]))
            elif w == 5:
                v.append(max((max(C.dep[i], C.dep[i] - POP[C.ins[i][0]] + PUSH[C.ins[i][0]]) for i in C.dep)))
            elif w == 6:
                v.append(max(range(nb), key=lambda b: (len(C.st[b]), -b)))
            else:
                v.append(len([x for x in C.truth if x[1] < {'V': 6, 'T': C.nt, 'X': C.nx}[x[0]]]))
        o.append('most ' + ' '.join(map(str, v)))
        return o

    def run(s, how, a, b, seed, lim):
        C = s.C
        if C is None or how not in (0, 1) or (how == 1 and C.tangled) or (not 1 <= lim <= 200):
            return 'run ' + ' '.join([str(HIDDEN)] * 14) + ' : ' + str(HIDDEN)
        R = (runcode, runlines)[how](C, a, b, seed, lim)
        if how == 1:
            Q = runcode(C, a, b, seed, lim)
            for w in range(12):
                assert R.result(w) == Q.result(w), ('code and lines differ', w, R.result(w), Q.result(w), C.ins, C.hs, C.ltext)
        v = [HIDDEN] + [R.result(w) for w in range(12)] + [HIDDEN]
        k = len(R.out)
        ov = [R.out[i] if 0 <= i < k else HIDDEN for i in range(-1, min(k, 20) + 1)]
        return 'run ' + ' '.join(map(str, v)) + ' : ' + ' '.join(map(str, ov))
